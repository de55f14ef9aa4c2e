theorem dX11_planAt_0 : decode cX11_planAt 0 = .ok (.iload_n 1, 1) := by decide +kernel
theorem dX11_planAt_1 : decode cX11_planAt 1 = .ok (.ifCond .lt 11, 3) := by decide +kernel
theorem dX11_planAt_12 : decode cX11_planAt 12 = .ok (.aconst_null, 1) := by decide +kernel
theorem dX11_planAt_13 : decode cX11_planAt 13 = .ok (.goto 9, 3) := by decide +kernel
theorem dX11_planAt_22 : decode cX11_planAt 22 = .ok (.areturn, 1) := by decide +kernel
theorem dX11_planAt_4 : decode cX11_planAt 4 = .ok (.iload_n 1, 1) := by decide +kernel
theorem dX11_planAt_5 : decode cX11_planAt 5 = .ok (.aload_n 0, 1) := by decide +kernel
theorem dX11_planAt_6 : decode cX11_planAt 6 = .ok (.getfield 151, 3) := by decide +kernel
theorem dX11_planAt_9 : decode cX11_planAt 9 = .ok (.if_icmp .lt 7, 3) := by decide +kernel
theorem dX11_told_0 : decode cX11_told 0 = .ok (.aload_n 0, 1) := by decide +kernel
theorem dX11_told_1 : decode cX11_told 1 = .ok (.iload_n 1, 1) := by decide +kernel
theorem dX11_told_2 : decode cX11_told 2 = .ok (.invokevirtual 101, 3) := by decide +kernel
theorem dX11_told_5 : decode cX11_told 5 = .ok (.astore_n 3, 1) := by decide +kernel
theorem dX11_told_6 : decode cX11_told 6 = .ok (.aload_n 3, 1) := by decide +kernel
theorem dX11_told_7 : decode cX11_told 7 = .ok (.ifnull 7, 3) := by decide +kernel
theorem dX11_told_14 : decode cX11_told 14 = .ok (.iconst (-1), 1) := by decide +kernel
theorem dX11_told_15 : decode cX11_told 15 = .ok (.ireturn, 1) := by decide +kernel
theorem dX11_down_0 : decode cX11_down 0 = .ok (.aload_n 0, 1) := by decide +kernel
theorem dX11_down_1 : decode cX11_down 1 = .ok (.iload_n 1, 1) := by decide +kernel
theorem dX11_down_2 : decode cX11_down 2 = .ok (.invokevirtual 101, 3) := by decide +kernel
theorem dX11_down_5 : decode cX11_down 5 = .ok (.astore 4, 2) := by decide +kernel
theorem dX11_down_7 : decode cX11_down 7 = .ok (.aload 4, 2) := by decide +kernel
theorem dX11_down_9 : decode cX11_down 9 = .ok (.ifnull 24, 3) := by decide +kernel
theorem dX11_down_33 : decode cX11_down 33 = .ok (.iconst 0, 1) := by decide +kernel
theorem dX11_down_34 : decode cX11_down 34 = .ok (.ireturn, 1) := by decide +kernel
theorem dX11_may_0 : decode cX11_may 0 = .ok (.aload_n 0, 1) := by decide +kernel
theorem dX11_may_1 : decode cX11_may 1 = .ok (.iload_n 1, 1) := by decide +kernel
theorem dX11_may_2 : decode cX11_may 2 = .ok (.invokevirtual 101, 3) := by decide +kernel
theorem dX11_may_5 : decode cX11_may 5 = .ok (.astore 5, 2) := by decide +kernel
theorem dX11_may_7 : decode cX11_may 7 = .ok (.aload 5, 2) := by decide +kernel
theorem dX11_may_9 : decode cX11_may 9 = .ok (.ifnull 21, 3) := by decide +kernel
theorem dX11_may_30 : decode cX11_may 30 = .ok (.iconst (-1), 1) := by decide +kernel
theorem dX11_may_31 : decode cX11_may 31 = .ok (.ireturn, 1) := by decide +kernel
theorem dX11_card_0 : decode cX11_card 0 = .ok (.aload_n 0, 1) := by decide +kernel
theorem dX11_card_1 : decode cX11_card 1 = .ok (.iload_n 1, 1) := by decide +kernel
theorem dX11_card_2 : decode cX11_card 2 = .ok (.invokevirtual 101, 3) := by decide +kernel
theorem dX11_card_5 : decode cX11_card 5 = .ok (.astore 4, 2) := by decide +kernel
theorem dX11_card_7 : decode cX11_card 7 = .ok (.aload 4, 2) := by decide +kernel
theorem dX11_card_9 : decode cX11_card 9 = .ok (.ifnull 13, 3) := by decide +kernel
theorem dX11_card_22 : decode cX11_card 22 = .ok (.iconst (-1), 1) := by decide +kernel
theorem dX11_card_23 : decode cX11_card 23 = .ok (.ireturn, 1) := by decide +kernel
theorem dX11_blank_0 : decode cX11_blank 0 = .ok (.aload_n 0, 1) := by decide +kernel
theorem dX11_blank_1 : decode cX11_blank 1 = .ok (.iload_n 1, 1) := by decide +kernel
theorem dX11_blank_2 : decode cX11_blank 2 = .ok (.invokevirtual 101, 3) := by decide +kernel
theorem dX11_blank_5 : decode cX11_blank 5 = .ok (.astore_n 2, 1) := by decide +kernel
theorem dX11_blank_6 : decode cX11_blank 6 = .ok (.aload_n 2, 1) := by decide +kernel
theorem dX11_blank_7 : decode cX11_blank 7 = .ok (.ifnonnull 5, 3) := by decide +kernel
theorem dX11_blank_10 : decode cX11_blank 10 = .ok (.iconst 0, 1) := by decide +kernel
theorem dX11_blank_11 : decode cX11_blank 11 = .ok (.ireturn, 1) := by decide +kernel
theorem dX11_tale_0 : decode cX11_tale 0 = .ok (.aload_n 0, 1) := by decide +kernel
theorem dX11_tale_1 : decode cX11_tale 1 = .ok (.iload_n 1, 1) := by decide +kernel
theorem dX11_tale_2 : decode cX11_tale 2 = .ok (.invokevirtual 101, 3) := by decide +kernel
theorem dX11_tale_5 : decode cX11_tale 5 = .ok (.astore 5, 2) := by decide +kernel
theorem dX11_tale_7 : decode cX11_tale 7 = .ok (.aload 5, 2) := by decide +kernel
theorem dX11_tale_9 : decode cX11_tale 9 = .ok (.ifnull 33, 3) := by decide +kernel
theorem dX11_tale_42 : decode cX11_tale 42 = .ok (.iconst 0, 1) := by decide +kernel
theorem dX11_tale_43 : decode cX11_tale 43 = .ok (.ireturn, 1) := by decide +kernel
theorem dX12_isPlan_0 : decode cX12_isPlan 0 = .ok (.iload_n 1, 1) := by decide +kernel
theorem dX12_isPlan_1 : decode cX12_isPlan 1 = .ok (.ifCond .lt 15, 3) := by decide +kernel
theorem dX12_isPlan_16 : decode cX12_isPlan 16 = .ok (.iconst 0, 1) := by decide +kernel
theorem dX12_isPlan_17 : decode cX12_isPlan 17 = .ok (.ireturn, 1) := by decide +kernel
theorem dX12_isPlan_4 : decode cX12_isPlan 4 = .ok (.iload_n 1, 1) := by decide +kernel
theorem dX12_isPlan_5 : decode cX12_isPlan 5 = .ok (.aload_n 0, 1) := by decide +kernel
theorem dX12_isPlan_6 : decode cX12_isPlan 6 = .ok (.getfield 244, 3) := by decide +kernel
theorem dX12_isPlan_9 : decode cX12_isPlan 9 = .ok (.if_icmp .ge 7, 3) := by decide +kernel
theorem dX12_isLine_0 : decode cX12_isLine 0 = .ok (.aload_n 0, 1) := by decide +kernel
theorem dX12_isLine_1 : decode cX12_isLine 1 = .ok (.iload_n 1, 1) := by decide +kernel
theorem dX12_isLine_2 : decode cX12_isLine 2 = .ok (.invokevirtual 221, 3) := by decide +kernel
theorem dX12_isLine_5 : decode cX12_isLine 5 = .ok (.ifCond .eq 23, 3) := by decide +kernel
theorem dX12_isLine_28 : decode cX12_isLine 28 = .ok (.iconst 0, 1) := by decide +kernel
theorem dX12_isLine_29 : decode cX12_isLine 29 = .ok (.ireturn, 1) := by decide +kernel
theorem dX12_told_0 : decode cX12_told 0 = .ok (.aload_n 0, 1) := by decide +kernel
theorem dX12_told_1 : decode cX12_told 1 = .ok (.iconst 0, 1) := by decide +kernel
theorem dX12_told_2 : decode cX12_told 2 = .ok (.putfield 160, 3) := by decide +kernel
theorem dX12_told_5 : decode cX12_told 5 = .ok (.aload_n 0, 1) := by decide +kernel
theorem dX12_told_6 : decode cX12_told 6 = .ok (.iload_n 1, 1) := by decide +kernel
theorem dX12_told_7 : decode cX12_told 7 = .ok (.invokevirtual 221, 3) := by decide +kernel
theorem dX12_told_10 : decode cX12_told 10 = .ok (.ifCond .ne 5, 3) := by decide +kernel
theorem dX12_told_13 : decode cX12_told 13 = .ok (.iconst (-1), 1) := by decide +kernel
theorem dX12_told_14 : decode cX12_told 14 = .ok (.ireturn, 1) := by decide +kernel
theorem dX12_down_0 : decode cX12_down 0 = .ok (.aload_n 0, 1) := by decide +kernel
theorem dX12_down_1 : decode cX12_down 1 = .ok (.iconst 0, 1) := by decide +kernel
theorem dX12_down_2 : decode cX12_down 2 = .ok (.putfield 160, 3) := by decide +kernel
theorem dX12_down_5 : decode cX12_down 5 = .ok (.aload_n 0, 1) := by decide +kernel
theorem dX12_down_6 : decode cX12_down 6 = .ok (.iload_n 1, 1) := by decide +kernel
theorem dX12_down_7 : decode cX12_down 7 = .ok (.iload_n 2, 1) := by decide +kernel
theorem dX12_down_8 : decode cX12_down 8 = .ok (.invokevirtual 224, 3) := by decide +kernel
theorem dX12_down_11 : decode cX12_down 11 = .ok (.ifCond .eq 15, 3) := by decide +kernel
theorem dX12_down_26 : decode cX12_down 26 = .ok (.iconst 0, 1) := by decide +kernel
theorem dX12_down_27 : decode cX12_down 27 = .ok (.ireturn, 1) := by decide +kernel
theorem dX12_may_0 : decode cX12_may 0 = .ok (.aload_n 0, 1) := by decide +kernel
theorem dX12_may_1 : decode cX12_may 1 = .ok (.iconst 0, 1) := by decide +kernel
theorem dX12_may_2 : decode cX12_may 2 = .ok (.putfield 160, 3) := by decide +kernel
theorem dX12_may_5 : decode cX12_may 5 = .ok (.aload_n 0, 1) := by decide +kernel
theorem dX12_may_6 : decode cX12_may 6 = .ok (.iload_n 1, 1) := by decide +kernel
theorem dX12_may_7 : decode cX12_may 7 = .ok (.invokevirtual 221, 3) := by decide +kernel
theorem dX12_may_10 : decode cX12_may 10 = .ok (.ifCond .eq 34, 3) := by decide +kernel
theorem dX12_may_44 : decode cX12_may 44 = .ok (.iconst (-1), 1) := by decide +kernel
theorem dX12_may_45 : decode cX12_may 45 = .ok (.goto 20, 3) := by decide +kernel
theorem dX12_may_65 : decode cX12_may 65 = .ok (.ireturn, 1) := by decide +kernel
theorem dX12_call_0 : decode cX12_call 0 = .ok (.aload_n 0, 1) := by decide +kernel
theorem dX12_call_1 : decode cX12_call 1 = .ok (.iconst 0, 1) := by decide +kernel
theorem dX12_call_2 : decode cX12_call 2 = .ok (.putfield 160, 3) := by decide +kernel
theorem dX12_call_5 : decode cX12_call 5 = .ok (.aload_n 0, 1) := by decide +kernel
theorem dX12_call_6 : decode cX12_call 6 = .ok (.iload_n 1, 1) := by decide +kernel
theorem dX12_call_7 : decode cX12_call 7 = .ok (.invokevirtual 247, 3) := by decide +kernel
theorem dX12_call_10 : decode cX12_call 10 = .ok (.ifCond .eq 45, 3) := by decide +kernel
theorem dX12_call_55 : decode cX12_call 55 = .ok (.iconst (-1), 1) := by decide +kernel
theorem dX12_call_56 : decode cX12_call 56 = .ok (.ireturn, 1) := by decide +kernel
theorem dX12_added_0 : decode cX12_added 0 = .ok (.aload_n 0, 1) := by decide +kernel
theorem dX12_added_1 : decode cX12_added 1 = .ok (.iload_n 1, 1) := by decide +kernel
theorem dX12_added_2 : decode cX12_added 2 = .ok (.iload_n 2, 1) := by decide +kernel
theorem dX12_added_3 : decode cX12_added 3 = .ok (.invokevirtual 315, 3) := by decide +kernel
theorem dX12_added_6 : decode cX12_added 6 = .ok (.ifCond .eq 12, 3) := by decide +kernel
theorem dX12_added_18 : decode cX12_added 18 = .ok (.iconst (-1), 1) := by decide +kernel
theorem dX12_added_19 : decode cX12_added 19 = .ok (.ireturn, 1) := by decide +kernel
theorem dX12_card_0 : decode cX12_card 0 = .ok (.aload_n 0, 1) := by decide +kernel
theorem dX12_card_1 : decode cX12_card 1 = .ok (.iconst 0, 1) := by decide +kernel
theorem dX12_card_2 : decode cX12_card 2 = .ok (.putfield 160, 3) := by decide +kernel
theorem dX12_card_5 : decode cX12_card 5 = .ok (.aload_n 0, 1) := by decide +kernel
theorem dX12_card_6 : decode cX12_card 6 = .ok (.iload_n 1, 1) := by decide +kernel
theorem dX12_card_7 : decode cX12_card 7 = .ok (.invokevirtual 221, 3) := by decide +kernel
theorem dX12_card_10 : decode cX12_card 10 = .ok (.ifCond .eq 42, 3) := by decide +kernel
theorem dX12_card_52 : decode cX12_card 52 = .ok (.iconst (-1), 1) := by decide +kernel
theorem dX12_card_53 : decode cX12_card 53 = .ok (.ireturn, 1) := by decide +kernel
theorem dX12_blank_0 : decode cX12_blank 0 = .ok (.aload_n 0, 1) := by decide +kernel
theorem dX12_blank_1 : decode cX12_blank 1 = .ok (.iconst 0, 1) := by decide +kernel
theorem dX12_blank_2 : decode cX12_blank 2 = .ok (.putfield 160, 3) := by decide +kernel
theorem dX12_blank_5 : decode cX12_blank 5 = .ok (.aload_n 0, 1) := by decide +kernel
theorem dX12_blank_6 : decode cX12_blank 6 = .ok (.iload_n 1, 1) := by decide +kernel
theorem dX12_blank_7 : decode cX12_blank 7 = .ok (.invokevirtual 221, 3) := by decide +kernel
theorem dX12_blank_10 : decode cX12_blank 10 = .ok (.ifCond .ne 5, 3) := by decide +kernel
theorem dX12_blank_13 : decode cX12_blank 13 = .ok (.iconst 0, 1) := by decide +kernel
theorem dX12_blank_14 : decode cX12_blank 14 = .ok (.ireturn, 1) := by decide +kernel
theorem dX12_tale_0 : decode cX12_tale 0 = .ok (.aload_n 0, 1) := by decide +kernel
theorem dX12_tale_1 : decode cX12_tale 1 = .ok (.iconst 0, 1) := by decide +kernel
theorem dX12_tale_2 : decode cX12_tale 2 = .ok (.putfield 160, 3) := by decide +kernel
theorem dX12_tale_5 : decode cX12_tale 5 = .ok (.aload_n 0, 1) := by decide +kernel
theorem dX12_tale_6 : decode cX12_tale 6 = .ok (.iload_n 1, 1) := by decide +kernel
theorem dX12_tale_7 : decode cX12_tale 7 = .ok (.invokevirtual 221, 3) := by decide +kernel
theorem dX12_tale_10 : decode cX12_tale 10 = .ok (.ifCond .eq 30, 3) := by decide +kernel
theorem dX12_tale_40 : decode cX12_tale 40 = .ok (.iconst 0, 1) := by decide +kernel
theorem dX12_tale_41 : decode cX12_tale 41 = .ok (.ireturn, 1) := by decide +kernel
theorem dX11_count_0 : decode cX11_count 0 = .ok (.iload_n 1, 1) := by decide +kernel
theorem dX11_count_1 : decode cX11_count 1 = .ok (.tableswitch 54 0 3 #[31, 36, 41, 46], 31) := by decide +kernel
theorem dX11_count_32 : decode cX11_count 32 = .ok (.aload_n 0, 1) := by decide +kernel
theorem dX11_count_33 : decode cX11_count 33 = .ok (.getfield 94, 3) := by decide +kernel
theorem dX11_count_36 : decode cX11_count 36 = .ok (.ireturn, 1) := by decide +kernel
theorem dX11_count_37 : decode cX11_count 37 = .ok (.aload_n 0, 1) := by decide +kernel
theorem dX11_count_38 : decode cX11_count 38 = .ok (.getfield 151, 3) := by decide +kernel
theorem dX11_count_41 : decode cX11_count 41 = .ok (.ireturn, 1) := by decide +kernel
theorem dX11_count_42 : decode cX11_count 42 = .ok (.aload_n 0, 1) := by decide +kernel
theorem dX11_count_43 : decode cX11_count 43 = .ok (.getfield 171, 3) := by decide +kernel
theorem dX11_count_46 : decode cX11_count 46 = .ok (.ireturn, 1) := by decide +kernel
theorem dX11_count_47 : decode cX11_count 47 = .ok (.aload_n 0, 1) := by decide +kernel
theorem dX11_count_48 : decode cX11_count 48 = .ok (.getfield 10, 3) := by decide +kernel
theorem dX11_count_51 : decode cX11_count 51 = .ok (.getfield 325, 3) := by decide +kernel
theorem dX11_count_54 : decode cX11_count 54 = .ok (.ireturn, 1) := by decide +kernel
theorem dX11_count_55 : decode cX11_count 55 = .ok (.iconst (-1), 1) := by decide +kernel
theorem dX11_count_56 : decode cX11_count 56 = .ok (.ireturn, 1) := by decide +kernel
theorem dX12_count_0 : decode cX12_count 0 = .ok (.aload_n 0, 1) := by decide +kernel
theorem dX12_count_1 : decode cX12_count 1 = .ok (.iconst 0, 1) := by decide +kernel
theorem dX12_count_2 : decode cX12_count 2 = .ok (.putfield 160, 3) := by decide +kernel
theorem dX12_count_5 : decode cX12_count 5 = .ok (.iload_n 1, 1) := by decide +kernel
theorem dX12_count_6 : decode cX12_count 6 = .ok (.tableswitch 74 0 3 #[30, 35, 40, 69], 30) := by decide +kernel
theorem dX12_count_36 : decode cX12_count 36 = .ok (.aload_n 0, 1) := by decide +kernel
theorem dX12_count_37 : decode cX12_count 37 = .ok (.getfield 212, 3) := by decide +kernel
theorem dX12_count_40 : decode cX12_count 40 = .ok (.ireturn, 1) := by decide +kernel
theorem dX12_count_41 : decode cX12_count 41 = .ok (.aload_n 0, 1) := by decide +kernel
theorem dX12_count_42 : decode cX12_count 42 = .ok (.getfield 244, 3) := by decide +kernel
theorem dX12_count_45 : decode cX12_count 45 = .ok (.ireturn, 1) := by decide +kernel
theorem dX12_count_46 : decode cX12_count 46 = .ok (.iconst 0, 1) := by decide +kernel
theorem dX12_count_47 : decode cX12_count 47 = .ok (.istore_n 2, 1) := by decide +kernel
theorem dX12_count_48 : decode cX12_count 48 = .ok (.iconst 0, 1) := by decide +kernel
theorem dX12_count_49 : decode cX12_count 49 = .ok (.istore_n 3, 1) := by decide +kernel
theorem dX12_count_50 : decode cX12_count 50 = .ok (.iload_n 3, 1) := by decide +kernel
theorem dX12_count_51 : decode cX12_count 51 = .ok (.aload_n 0, 1) := by decide +kernel
theorem dX12_count_52 : decode cX12_count 52 = .ok (.getfield 244, 3) := by decide +kernel
theorem dX12_count_55 : decode cX12_count 55 = .ok (.if_icmp .ge 18, 3) := by decide +kernel
theorem dX12_count_73 : decode cX12_count 73 = .ok (.iload_n 2, 1) := by decide +kernel
theorem dX12_count_74 : decode cX12_count 74 = .ok (.ireturn, 1) := by decide +kernel
theorem dX12_count_75 : decode cX12_count 75 = .ok (.aload_n 0, 1) := by decide +kernel
theorem dX12_count_76 : decode cX12_count 76 = .ok (.getfield 163, 3) := by decide +kernel
theorem dX12_count_79 : decode cX12_count 79 = .ok (.ireturn, 1) := by decide +kernel
theorem dX12_count_80 : decode cX12_count 80 = .ok (.iconst (-1), 1) := by decide +kernel
theorem dX12_count_81 : decode cX12_count 81 = .ok (.ireturn, 1) := by decide +kernel
theorem tab_out3 {x : Int32} (h1 : ¬ x = 1) (h2 : ¬ x = 2) (h3 : ¬ x = 3) : x.toInt < 1 ∨ 3 < x.toInt := by
  by_cases a : x.toInt < 1
  · exact Or.inl a
  · by_cases b : (3 : Int) < x.toInt
    · exact Or.inr b
    · exfalso
      have : x.toInt = 1 ∨ x.toInt = 2 ∨ x.toInt = 3 := by omega
      rcases this with h | h | h
      · exact h1 (Int32.toInt_inj.mp (h.trans (by decide)))
      · exact h2 (Int32.toInt_inj.mp (h.trans (by decide)))
      · exact h3 (Int32.toInt_inj.mp (h.trans (by decide)))
theorem ends_dn {L : Nat → Int32} {n p i : Nat} {x : Int32} (h : endsIn L n p) : endsIn (upd L (i * 6 + 5) x) n p := fun k hk => by
  obtain ⟨a, b, h1, h2, h3, h4⟩ := h k hk
  exact ⟨a, b, h1, h2, by rw [upd_ne (by omega)]; exact h3, by rw [upd_ne (by omega)]; exact h4⟩
theorem nI_ge0 {k : Nat} (h : k < 2 ^ 31) : (0 : Int32) ≤ nI k := Int32.not_lt.mp (nI_nn h)
theorem dX10_hasPerson_0 : decode cX10_hasPerson 0 = .ok (.iload_n 1, 1) := by decide +kernel
theorem dX10_hasPerson_1 : decode cX10_hasPerson 1 = .ok (.ifCond .lt 15, 3) := by decide +kernel
theorem dX10_hasPerson_16 : decode cX10_hasPerson 16 = .ok (.iconst 0, 1) := by decide +kernel
theorem dX10_hasPerson_17 : decode cX10_hasPerson 17 = .ok (.ireturn, 1) := by decide +kernel
theorem dX10_hasPerson_4 : decode cX10_hasPerson 4 = .ok (.iload_n 1, 1) := by decide +kernel
theorem dX10_hasPerson_5 : decode cX10_hasPerson 5 = .ok (.aload_n 0, 1) := by decide +kernel
theorem dX10_hasPerson_6 : decode cX10_hasPerson 6 = .ok (.getfield 54, 3) := by decide +kernel
theorem dX10_hasPerson_9 : decode cX10_hasPerson 9 = .ok (.if_icmp .ge 7, 3) := by decide +kernel
theorem dX10_hasPerson_12 : decode cX10_hasPerson 12 = .ok (.iconst 1, 1) := by decide +kernel
theorem dX10_hasPerson_13 : decode cX10_hasPerson 13 = .ok (.goto 4, 3) := by decide +kernel
theorem dX10_hasCouple_0 : decode cX10_hasCouple 0 = .ok (.aload_n 0, 1) := by decide +kernel
theorem dX10_hasCouple_1 : decode cX10_hasCouple 1 = .ok (.iload_n 1, 1) := by decide +kernel
theorem dX10_hasCouple_2 : decode cX10_hasCouple 2 = .ok (.invokevirtual 80, 3) := by decide +kernel
theorem dX10_hasCouple_5 : decode cX10_hasCouple 5 = .ok (.ifCond .eq 20, 3) := by decide +kernel
theorem dX10_hasCouple_25 : decode cX10_hasCouple 25 = .ok (.iconst 0, 1) := by decide +kernel
theorem dX10_hasCouple_26 : decode cX10_hasCouple 26 = .ok (.ireturn, 1) := by decide +kernel
theorem dX10_hasCouple_8 : decode cX10_hasCouple 8 = .ok (.aload_n 0, 1) := by decide +kernel
theorem dX10_hasCouple_9 : decode cX10_hasCouple 9 = .ok (.iload_n 2, 1) := by decide +kernel
theorem dX10_hasCouple_10 : decode cX10_hasCouple 10 = .ok (.invokevirtual 80, 3) := by decide +kernel
theorem dX10_hasCouple_13 : decode cX10_hasCouple 13 = .ok (.ifCond .eq 12, 3) := by decide +kernel
theorem dX10_hasCouple_16 : decode cX10_hasCouple 16 = .ok (.iload_n 1, 1) := by decide +kernel
theorem dX10_hasCouple_17 : decode cX10_hasCouple 17 = .ok (.iload_n 2, 1) := by decide +kernel
theorem dX10_hasCouple_18 : decode cX10_hasCouple 18 = .ok (.if_icmp .eq 7, 3) := by decide +kernel
theorem dX10_hasCouple_21 : decode cX10_hasCouple 21 = .ok (.iconst 1, 1) := by decide +kernel
theorem dX10_hasCouple_22 : decode cX10_hasCouple 22 = .ok (.goto 4, 3) := by decide +kernel
theorem dX10_hasLine_0 : decode cX10_hasLine 0 = .ok (.iload_n 1, 1) := by decide +kernel
theorem dX10_hasLine_1 : decode cX10_hasLine 1 = .ok (.ifCond .lt 15, 3) := by decide +kernel
theorem dX10_hasLine_16 : decode cX10_hasLine 16 = .ok (.iconst 0, 1) := by decide +kernel
theorem dX10_hasLine_17 : decode cX10_hasLine 17 = .ok (.ireturn, 1) := by decide +kernel
theorem dX10_hasLine_4 : decode cX10_hasLine 4 = .ok (.iload_n 1, 1) := by decide +kernel
theorem dX10_hasLine_5 : decode cX10_hasLine 5 = .ok (.aload_n 0, 1) := by decide +kernel
theorem dX10_hasLine_6 : decode cX10_hasLine 6 = .ok (.getfield 57, 3) := by decide +kernel
theorem dX10_hasLine_9 : decode cX10_hasLine 9 = .ok (.if_icmp .ge 7, 3) := by decide +kernel
theorem dX10_hasLine_12 : decode cX10_hasLine 12 = .ok (.iconst 1, 1) := by decide +kernel
theorem dX10_hasLine_13 : decode cX10_hasLine 13 = .ok (.goto 4, 3) := by decide +kernel
theorem dX10_callable_0 : decode cX10_callable 0 = .ok (.aload_n 0, 1) := by decide +kernel
theorem dX10_callable_1 : decode cX10_callable 1 = .ok (.getfield 33, 3) := by decide +kernel
theorem dX10_callable_4 : decode cX10_callable 4 = .ok (.iload_n 2, 1) := by decide +kernel
theorem dX10_callable_5 : decode cX10_callable 5 = .ok (.bipush 7, 2) := by decide +kernel
theorem dX10_callable_7 : decode cX10_callable 7 = .ok (.imul, 1) := by decide +kernel
theorem dX10_callable_8 : decode cX10_callable 8 = .ok (.iload_n 1, 1) := by decide +kernel
theorem dX10_callable_9 : decode cX10_callable 9 = .ok (.iadd, 1) := by decide +kernel
theorem dX10_callable_10 : decode cX10_callable 10 = .ok (.iaload, 1) := by decide +kernel
theorem dX10_callable_11 : decode cX10_callable 11 = .ok (.ireturn, 1) := by decide +kernel
theorem dX10_appendToCard_0 : decode cX10_appendToCard 0 = .ok (.aload_n 0, 1) := by decide +kernel
theorem dX10_appendToCard_1 : decode cX10_appendToCard 1 = .ok (.getfield 39, 3) := by decide +kernel
theorem dX10_appendToCard_4 : decode cX10_appendToCard 4 = .ok (.iload_n 1, 1) := by decide +kernel
theorem dX10_appendToCard_5 : decode cX10_appendToCard 5 = .ok (.iaload, 1) := by decide +kernel
theorem dX10_appendToCard_6 : decode cX10_appendToCard 6 = .ok (.istore_n 3, 1) := by decide +kernel
theorem dX10_appendToCard_7 : decode cX10_appendToCard 7 = .ok (.iload_n 3, 1) := by decide +kernel
theorem dX10_appendToCard_8 : decode cX10_appendToCard 8 = .ok (.bipush 6, 2) := by decide +kernel
theorem dX10_appendToCard_10 : decode cX10_appendToCard 10 = .ok (.if_icmp .lt 5, 3) := by decide +kernel
theorem dX10_appendToCard_15 : decode cX10_appendToCard 15 = .ok (.aload_n 0, 1) := by decide +kernel
theorem dX10_appendToCard_16 : decode cX10_appendToCard 16 = .ok (.getfield 36, 3) := by decide +kernel
theorem dX10_appendToCard_19 : decode cX10_appendToCard 19 = .ok (.iload_n 1, 1) := by decide +kernel
theorem dX10_appendToCard_20 : decode cX10_appendToCard 20 = .ok (.bipush 6, 2) := by decide +kernel
theorem dX10_appendToCard_22 : decode cX10_appendToCard 22 = .ok (.imul, 1) := by decide +kernel
theorem dX10_appendToCard_23 : decode cX10_appendToCard 23 = .ok (.iload_n 3, 1) := by decide +kernel
theorem dX10_appendToCard_24 : decode cX10_appendToCard 24 = .ok (.iadd, 1) := by decide +kernel
theorem dX10_appendToCard_25 : decode cX10_appendToCard 25 = .ok (.iload_n 2, 1) := by decide +kernel
theorem dX10_appendToCard_26 : decode cX10_appendToCard 26 = .ok (.iastore, 1) := by decide +kernel
theorem dX10_appendToCard_27 : decode cX10_appendToCard 27 = .ok (.aload_n 0, 1) := by decide +kernel
theorem dX10_appendToCard_28 : decode cX10_appendToCard 28 = .ok (.getfield 39, 3) := by decide +kernel
theorem dX10_appendToCard_31 : decode cX10_appendToCard 31 = .ok (.iload_n 1, 1) := by decide +kernel
theorem dX10_appendToCard_32 : decode cX10_appendToCard 32 = .ok (.iload_n 3, 1) := by decide +kernel
theorem dX10_appendToCard_33 : decode cX10_appendToCard 33 = .ok (.iconst 1, 1) := by decide +kernel
theorem dX10_appendToCard_34 : decode cX10_appendToCard 34 = .ok (.iadd, 1) := by decide +kernel
theorem dX10_appendToCard_35 : decode cX10_appendToCard 35 = .ok (.iastore, 1) := by decide +kernel
theorem dX10_appendToCard_36 : decode cX10_appendToCard 36 = .ok (.iload_n 3, 1) := by decide +kernel
theorem dX10_appendToCard_37 : decode cX10_appendToCard 37 = .ok (.iconst 1, 1) := by decide +kernel
theorem dX10_appendToCard_38 : decode cX10_appendToCard 38 = .ok (.iadd, 1) := by decide +kernel
theorem dX10_appendToCard_39 : decode cX10_appendToCard 39 = .ok (.ireturn, 1) := by decide +kernel
theorem dX10_appendToCard_13 : decode cX10_appendToCard 13 = .ok (.iconst (-1), 1) := by decide +kernel
theorem dX10_appendToCard_14 : decode cX10_appendToCard 14 = .ok (.ireturn, 1) := by decide +kernel
theorem dX10_emptyCards_0 : decode cX10_emptyCards 0 = .ok (.aload_n 0, 1) := by decide +kernel
theorem dX10_emptyCards_1 : decode cX10_emptyCards 1 = .ok (.getfield 39, 3) := by decide +kernel
theorem dX10_emptyCards_4 : decode cX10_emptyCards 4 = .ok (.iconst 0, 1) := by decide +kernel
theorem dX10_emptyCards_5 : decode cX10_emptyCards 5 = .ok (.invokestatic 63, 3) := by decide +kernel
theorem dX10_emptyCards_8 : decode cX10_emptyCards 8 = .ok (.return_, 1) := by decide +kernel
theorem dX10_setTale_0 : decode cX10_setTale 0 = .ok (.aload_n 0, 1) := by decide +kernel
theorem dX10_setTale_1 : decode cX10_setTale 1 = .ok (.getfield 42, 3) := by decide +kernel
theorem dX10_setTale_4 : decode cX10_setTale 4 = .ok (.iload_n 1, 1) := by decide +kernel
theorem dX10_setTale_5 : decode cX10_setTale 5 = .ok (.bipush 7, 2) := by decide +kernel
theorem dX10_setTale_7 : decode cX10_setTale 7 = .ok (.imul, 1) := by decide +kernel
theorem dX10_setTale_8 : decode cX10_setTale 8 = .ok (.iload_n 2, 1) := by decide +kernel
theorem dX10_setTale_9 : decode cX10_setTale 9 = .ok (.iadd, 1) := by decide +kernel
theorem dX10_setTale_10 : decode cX10_setTale 10 = .ok (.iload_n 3, 1) := by decide +kernel
theorem dX10_setTale_11 : decode cX10_setTale 11 = .ok (.iastore, 1) := by decide +kernel
theorem dX10_setTale_12 : decode cX10_setTale 12 = .ok (.return_, 1) := by decide +kernel
def F_X10_setDown (lc : Nat) (L : Nat → Int32) (i : Nat) (h : Int32) : (Nat → Int32) × (Nat → Int32) := ((upd L (i * 6 + 5) h), (F_X10_lookAtLines lc (upd L (i * 6 + 5) h)))
set_option maxHeartbeats 4000000 in
set_option maxRecDepth 100000 in
theorem K_X10_setDown (l : Launch) (g : GG) (v : Nat) (v3 : Nat) (v4 : Nat) (v5 : Nat) (v6 : Nat) (v7 : Nat) (v8 : Nat) (v9 : Nat) (v10 : Nat) (v11 : Nat) (v12 : Nat) (v13 : Nat) (v15 : Nat) (pe : Int32) (lc : Nat) (de : Int32) (gl : Int32) (L : Nat → Int32) (K : Nat → Int32) (pp : Nat) (i : Nat) (h : Int32) (hi : i < lc) (hlc : lc ≤ 12) (hpp : pp ≤ 7) (hL : endsIn L lc pp) : MetV l g yX10_setDown cX10_setDown 3 none 4 0 0 [.ref v, .int (nI i), .int h] [(v, .inr (10, [.int pe, .int (nI lc), .int de, .ref v3, .ref v4, .ref v5, .ref v6, .ref v7, .ref v8, .ref v9, .ref v10, .ref v11, .ref v12, .ref v13, .int gl, .ref v15])), (v9, .inl (g.2.1 1, 72, .inl L)), (v10, .inl (g.2.1 1, 175, .inl K))] (fun u => u = [(v, .inr (10, [.int pe, .int (nI lc), .int de, .ref v3, .ref v4, .ref v5, .ref v6, .ref v7, .ref v8, .ref v9, .ref v10, .ref v11, .ref v12, .ref v13, .int gl, .ref v15])), (v9, .inl (g.2.1 1, 72, .inl ((F_X10_setDown lc L i h).1))), (v10, .inl (g.2.1 1, 175, .inl ((F_X10_setDown lc L i h).2)))]) := by
  refine MetV.of (own := RX10) rfl (by decide) (Nat.le_of_ble_eq_true rfl) ?_
  intro p e s m below meth c A ls args Q hQ X hr hin hW hl
  have hx := X.1
  have hb := X.2.1
  have hl : lv_has ls 3 [(0, .ref v), (1, .int (nI i)), (2, .int h)] := hl
  refine lv_aload_n (pc := 0) hx hb dX10_setDown_0 rfl (lv_at hl 0 rfl) ?_
  refine r_get X hW 0 ciX10 9 rfl (by decide) m_310 rfl rfl dX10_setDown_1 ?_
  refine lv_iload_n (pc := 4) hx hb dX10_setDown_4 rfl (lv_at hl 1 rfl) ?_
  refine lv_bipush (v := 6) (pc := 5) hx hb dX10_setDown_5 (by decide) ?_
  refine lv_imul (pc := 7) hx hb dX10_setDown_7 ?_
  refine lv_topi (fun v1 ev1 => ?_)
  obtain rfl : v1 = nI (i * 6) := ev1.trans (pk_mul i 6)
  refine lv_iconst (v := 5) (pc := 8) hx hb dX10_setDown_8 (by decide) ?_
  refine lv_iadd (pc := 9) hx hb dX10_setDown_9 ?_
  refine lv_topi (fun v2 ev2 => ?_)
  obtain rfl : v2 = nI (i * 6 + 5) := ev2.trans (nI_add (i * 6) 5)
  refine lv_iload_n (pc := 10) hx hb dX10_setDown_10 rfl (lv_at hl 2 rfl) ?_
  refine r_iast (ws' := [(v, .inr (10, [.int pe, .int (nI lc), .int de, .ref v3, .ref v4, .ref v5, .ref v6, .ref v7, .ref v8, .ref v9, .ref v10, .ref v11, .ref v12, .ref v13, .int gl, .ref v15])), (v9, .inl (g.2.1 1, 72, .inl (upd L (i * 6 + 5) h))), (v10, .inl (g.2.1 1, 175, .inl K))]) X hW 1 rfl (vp_in_nI (by omega) (by decide)) (f' := (upd L (i * 6 + 5) h)) (by rw [nI_clamp (by omega)]) rfl dX10_setDown_11 (fun H locs hW => ?_)
  refine lv_aload_n (pc := 12) hx hb dX10_setDown_12 rfl (lv_at hl 0 rfl) ?_
  refine c_Vv (pc := 13) (As := []) (rest := []) (wr := []) X hW 0 ciX10 rfl (K_X10_lookAtLines l g v v3 v4 v5 v6 v7 v8 v9 v10 v11 v12 v13 v15 pe lc de gl (upd L (i * 6 + 5) h) K pp (by omega) (by omega) (ends_dn hL)) vX10_73 [0, 1, 2] [] rfl rfl rfl rfl rfl rfl hl.1 rfl (Nat.le_of_ble_eq_true rfl) ⟨Nat.le_of_ble_eq_true rfl, Nat.le_of_ble_eq_true rfl⟩ ⟨Nat.le_of_ble_eq_true rfl, Nat.le_of_ble_eq_true rfl⟩ dX10_setDown_13 (fun u9 H locs hq hW => ?_)
  obtain rfl := hq
  have hW : WD g A s _ _ [(v, .inr (10, [.int pe, .int (nI lc), .int de, .ref v3, .ref v4, .ref v5, .ref v6, .ref v7, .ref v8, .ref v9, .ref v10, .ref v11, .ref v12, .ref v13, .int gl, .ref v15])), (v9, .inl (g.2.1 1, 72, .inl (upd L (i * 6 + 5) h))), (v10, .inl (g.2.1 1, 175, .inl (F_X10_lookAtLines lc (upd L (i * 6 + 5) h))))] := hW
  have hF : F_X10_setDown lc L i h = ((upd L (i * 6 + 5) h), (F_X10_lookAtLines lc (upd L (i * 6 + 5) h))) := show F_X10_setDown lc L i h = ((upd L (i * 6 + 5) h), (F_X10_lookAtLines lc (upd L (i * 6 + 5) h))) from rfl
  exact e_v (u := [(v, .inr (10, [.int pe, .int (nI lc), .int de, .ref v3, .ref v4, .ref v5, .ref v6, .ref v7, .ref v8, .ref v9, .ref v10, .ref v11, .ref v12, .ref v13, .int gl, .ref v15])), (v9, .inl (g.2.1 1, 72, .inl (upd L (i * 6 + 5) h))), (v10, .inl (g.2.1 1, 175, .inl (F_X10_lookAtLines lc (upd L (i * 6 + 5) h))))]) X hQ hr (hW) [0, 1, 2] rfl rfl (by rw [hF]) ⟨Nat.le_of_ble_eq_true rfl, Nat.le_of_ble_eq_true rfl⟩ dX10_setDown_16

def F_X10_hasPerson (pe : Int32) (x : Int32) : Int32 := if x < 0 then ((0 : Int32)) else (if pe ≤ x then ((0 : Int32)) else ((1 : Int32)))
set_option maxHeartbeats 4000000 in
set_option maxRecDepth 100000 in
theorem K_X10_hasPerson (l : Launch) (g : GG) (v : Nat) (v3 : Nat) (v4 : Nat) (v5 : Nat) (v6 : Nat) (v7 : Nat) (v8 : Nat) (v9 : Nat) (v10 : Nat) (v11 : Nat) (v12 : Nat) (v13 : Nat) (v15 : Nat) (pe : Int32) (lc : Int32) (de : Int32) (gl : Int32) (x : Int32)  : MetI l g yX10_hasPerson cX10_hasPerson 2 (some .boolean) 0 0 0 [.ref v, .int x] [(v, .inr (10, [.int pe, .int lc, .int de, .ref v3, .ref v4, .ref v5, .ref v6, .ref v7, .ref v8, .ref v9, .ref v10, .ref v11, .ref v12, .ref v13, .int gl, .ref v15]))] (fun r u => r = (F_X10_hasPerson pe x) ∧ u = [(v, .inr (10, [.int pe, .int lc, .int de, .ref v3, .ref v4, .ref v5, .ref v6, .ref v7, .ref v8, .ref v9, .ref v10, .ref v11, .ref v12, .ref v13, .int gl, .ref v15]))]) := by
  refine MetI.of (own := RX10) rfl (by decide) (Nat.le_of_ble_eq_true rfl) ?_
  intro p e s m below meth c A ls args Q hQ X hr hin hW hl
  have hx := X.1
  have hb := X.2.1
  have hl : lv_has ls 2 [(0, .ref v), (1, .int x)] := hl
  refine lv_iload_n (pc := 0) hx hb dX10_hasPerson_0 rfl (lv_at hl 1 rfl) ?_
  refine lv_if_lt (tgt := 16) (pc := 1) hx hb dX10_hasPerson_1 rfl (fun c1 => ?_) (fun c1 => ?_)
  · refine lv_iconst (v := 0) (pc := 16) hx hb dX10_hasPerson_16 (by decide) ?_
    have hF : F_X10_hasPerson pe x = (0 : Int32) := show F_X10_hasPerson pe x = (0 : Int32) from by rw [F_X10_hasPerson, if_pos c1]
    exact e_z (u := [(v, .inr (10, [.int pe, .int lc, .int de, .ref v3, .ref v4, .ref v5, .ref v6, .ref v7, .ref v8, .ref v9, .ref v10, .ref v11, .ref v12, .ref v13, .int gl, .ref v15]))]) X hQ hr (hW) rfl [0] rfl rfl (⟨hF.symm, rfl⟩) ⟨Nat.le_of_ble_eq_true rfl, Nat.le_of_ble_eq_true rfl⟩ dX10_hasPerson_17
  · refine lv_iload_n (pc := 4) hx hb dX10_hasPerson_4 rfl (lv_at hl 1 rfl) ?_
    refine lv_aload_n (pc := 5) hx hb dX10_hasPerson_5 rfl (lv_at hl 0 rfl) ?_
    refine r_get X hW 0 ciX10 0 rfl (by decide) m_272 rfl rfl dX10_hasPerson_6 ?_
    refine lv_icmp_ge (tgt := 16) (pc := 9) hx hb dX10_hasPerson_9 rfl (fun c4 => ?_) (fun c4 => ?_)
    · refine lv_iconst (v := 0) (pc := 16) hx hb dX10_hasPerson_16 (by decide) ?_
      have hF : F_X10_hasPerson pe x = (0 : Int32) := show F_X10_hasPerson pe x = (0 : Int32) from by rw [F_X10_hasPerson, if_neg c1, if_pos c4]
      exact e_z (u := [(v, .inr (10, [.int pe, .int lc, .int de, .ref v3, .ref v4, .ref v5, .ref v6, .ref v7, .ref v8, .ref v9, .ref v10, .ref v11, .ref v12, .ref v13, .int gl, .ref v15]))]) X hQ hr (hW) rfl [0] rfl rfl (⟨hF.symm, rfl⟩) ⟨Nat.le_of_ble_eq_true rfl, Nat.le_of_ble_eq_true rfl⟩ dX10_hasPerson_17
    · refine lv_iconst (v := 1) (pc := 12) hx hb dX10_hasPerson_12 (by decide) ?_
      refine lv_goto (tgt := 17) (pc := 13) hx hb dX10_hasPerson_13 rfl ?_
      have hF : F_X10_hasPerson pe x = (1 : Int32) := show F_X10_hasPerson pe x = (1 : Int32) from by rw [F_X10_hasPerson, if_neg c1, if_neg c4]
      exact e_z (u := [(v, .inr (10, [.int pe, .int lc, .int de, .ref v3, .ref v4, .ref v5, .ref v6, .ref v7, .ref v8, .ref v9, .ref v10, .ref v11, .ref v12, .ref v13, .int gl, .ref v15]))]) X hQ hr (hW) rfl [0] rfl rfl (⟨hF.symm, rfl⟩) ⟨Nat.le_of_ble_eq_true rfl, Nat.le_of_ble_eq_true rfl⟩ dX10_hasPerson_17

def F_X10_hasCouple (pe : Int32) (x : Int32) (y : Int32) : Int32 := if F_X10_hasPerson pe x = 0 then ((0 : Int32)) else (if F_X10_hasPerson pe y = 0 then ((0 : Int32)) else (if x = y then ((0 : Int32)) else ((1 : Int32))))
set_option maxHeartbeats 4000000 in
set_option maxRecDepth 100000 in
theorem K_X10_hasCouple (l : Launch) (g : GG) (v : Nat) (v3 : Nat) (v4 : Nat) (v5 : Nat) (v6 : Nat) (v7 : Nat) (v8 : Nat) (v9 : Nat) (v10 : Nat) (v11 : Nat) (v12 : Nat) (v13 : Nat) (v15 : Nat) (pe : Int32) (lc : Int32) (de : Int32) (gl : Int32) (x : Int32) (y : Int32)  : MetI l g yX10_hasCouple cX10_hasCouple 3 (some .boolean) 1 0 0 [.ref v, .int x, .int y] [(v, .inr (10, [.int pe, .int lc, .int de, .ref v3, .ref v4, .ref v5, .ref v6, .ref v7, .ref v8, .ref v9, .ref v10, .ref v11, .ref v12, .ref v13, .int gl, .ref v15]))] (fun r u => r = (F_X10_hasCouple pe x y) ∧ u = [(v, .inr (10, [.int pe, .int lc, .int de, .ref v3, .ref v4, .ref v5, .ref v6, .ref v7, .ref v8, .ref v9, .ref v10, .ref v11, .ref v12, .ref v13, .int gl, .ref v15]))]) := by
  refine MetI.of (own := RX10) rfl (by decide) (Nat.le_of_ble_eq_true rfl) ?_
  intro p e s m below meth c A ls args Q hQ X hr hin hW hl
  have hx := X.1
  have hb := X.2.1
  have hl : lv_has ls 3 [(0, .ref v), (1, .int x), (2, .int y)] := hl
  refine lv_aload_n (pc := 0) hx hb dX10_hasCouple_0 rfl (lv_at hl 0 rfl) ?_
  refine lv_iload_n (pc := 1) hx hb dX10_hasCouple_1 rfl (lv_at hl 1 rfl) ?_
  refine c_Vi (pc := 2) (As := [.int x]) (rest := []) (wr := []) X hW 0 ciX10 rfl (K_X10_hasPerson l g v v3 v4 v5 v6 v7 v8 v9 v10 v11 v12 v13 v15 pe lc de gl x) vX10_80 [0] [] rfl rfl rfl rfl rfl rfl hl.1 rfl (Nat.le_of_ble_eq_true rfl) ⟨Nat.le_of_ble_eq_true rfl, Nat.le_of_ble_eq_true rfl⟩ ⟨Nat.le_of_ble_eq_true rfl, Nat.le_of_ble_eq_true rfl⟩ dX10_hasCouple_2 (fun r1 u9 H locs hq hW => ?_)
  obtain ⟨rfl, rfl⟩ := hq
  have hW : WD g A s _ _ [(v, .inr (10, [.int pe, .int lc, .int de, .ref v3, .ref v4, .ref v5, .ref v6, .ref v7, .ref v8, .ref v9, .ref v10, .ref v11, .ref v12, .ref v13, .int gl, .ref v15]))] := hW
  refine lv_if_eq (tgt := 25) (pc := 5) hx hb dX10_hasCouple_5 rfl (fun c2 => ?_) (fun c2 => ?_)
  · refine lv_iconst (v := 0) (pc := 25) hx hb dX10_hasCouple_25 (by decide) ?_
    have hF : F_X10_hasCouple pe x y = (0 : Int32) := show F_X10_hasCouple pe x y = (0 : Int32) from by rw [F_X10_hasCouple, if_pos c2]
    exact e_z (u := [(v, .inr (10, [.int pe, .int lc, .int de, .ref v3, .ref v4, .ref v5, .ref v6, .ref v7, .ref v8, .ref v9, .ref v10, .ref v11, .ref v12, .ref v13, .int gl, .ref v15]))]) X hQ hr (hW) rfl [0] rfl rfl (⟨hF.symm, rfl⟩) ⟨Nat.le_of_ble_eq_true rfl, Nat.le_of_ble_eq_true rfl⟩ dX10_hasCouple_26
  · refine lv_aload_n (pc := 8) hx hb dX10_hasCouple_8 rfl (lv_at hl 0 rfl) ?_
    refine lv_iload_n (pc := 9) hx hb dX10_hasCouple_9 rfl (lv_at hl 2 rfl) ?_
    refine c_Vi (pc := 10) (As := [.int y]) (rest := []) (wr := []) X hW 0 ciX10 rfl (K_X10_hasPerson l g v v3 v4 v5 v6 v7 v8 v9 v10 v11 v12 v13 v15 pe lc de gl y) vX10_80 [0] [] rfl rfl rfl rfl rfl rfl hl.1 rfl (Nat.le_of_ble_eq_true rfl) ⟨Nat.le_of_ble_eq_true rfl, Nat.le_of_ble_eq_true rfl⟩ ⟨Nat.le_of_ble_eq_true rfl, Nat.le_of_ble_eq_true rfl⟩ dX10_hasCouple_10 (fun r5 u9 H locs hq hW => ?_)
    obtain ⟨rfl, rfl⟩ := hq
    have hW : WD g A s _ _ [(v, .inr (10, [.int pe, .int lc, .int de, .ref v3, .ref v4, .ref v5, .ref v6, .ref v7, .ref v8, .ref v9, .ref v10, .ref v11, .ref v12, .ref v13, .int gl, .ref v15]))] := hW
    refine lv_if_eq (tgt := 25) (pc := 13) hx hb dX10_hasCouple_13 rfl (fun c6 => ?_) (fun c6 => ?_)
    · refine lv_iconst (v := 0) (pc := 25) hx hb dX10_hasCouple_25 (by decide) ?_
      have hF : F_X10_hasCouple pe x y = (0 : Int32) := show F_X10_hasCouple pe x y = (0 : Int32) from by rw [F_X10_hasCouple, if_neg c2, if_pos c6]
      exact e_z (u := [(v, .inr (10, [.int pe, .int lc, .int de, .ref v3, .ref v4, .ref v5, .ref v6, .ref v7, .ref v8, .ref v9, .ref v10, .ref v11, .ref v12, .ref v13, .int gl, .ref v15]))]) X hQ hr (hW) rfl [0] rfl rfl (⟨hF.symm, rfl⟩) ⟨Nat.le_of_ble_eq_true rfl, Nat.le_of_ble_eq_true rfl⟩ dX10_hasCouple_26
    · refine lv_iload_n (pc := 16) hx hb dX10_hasCouple_16 rfl (lv_at hl 1 rfl) ?_
      refine lv_iload_n (pc := 17) hx hb dX10_hasCouple_17 rfl (lv_at hl 2 rfl) ?_
      refine lv_icmp_eq (tgt := 25) (pc := 18) hx hb dX10_hasCouple_18 rfl (fun c9 => ?_) (fun c9 => ?_)
      · refine lv_iconst (v := 0) (pc := 25) hx hb dX10_hasCouple_25 (by decide) ?_
        have hF : F_X10_hasCouple pe x y = (0 : Int32) := show F_X10_hasCouple pe x y = (0 : Int32) from by rw [F_X10_hasCouple, if_neg c2, if_neg c6, if_pos c9]
        exact e_z (u := [(v, .inr (10, [.int pe, .int lc, .int de, .ref v3, .ref v4, .ref v5, .ref v6, .ref v7, .ref v8, .ref v9, .ref v10, .ref v11, .ref v12, .ref v13, .int gl, .ref v15]))]) X hQ hr (hW) rfl [0] rfl rfl (⟨hF.symm, rfl⟩) ⟨Nat.le_of_ble_eq_true rfl, Nat.le_of_ble_eq_true rfl⟩ dX10_hasCouple_26
      · refine lv_iconst (v := 1) (pc := 21) hx hb dX10_hasCouple_21 (by decide) ?_
        refine lv_goto (tgt := 26) (pc := 22) hx hb dX10_hasCouple_22 rfl ?_
        have hF : F_X10_hasCouple pe x y = (1 : Int32) := show F_X10_hasCouple pe x y = (1 : Int32) from by rw [F_X10_hasCouple, if_neg c2, if_neg c6, if_neg c9]
        exact e_z (u := [(v, .inr (10, [.int pe, .int lc, .int de, .ref v3, .ref v4, .ref v5, .ref v6, .ref v7, .ref v8, .ref v9, .ref v10, .ref v11, .ref v12, .ref v13, .int gl, .ref v15]))]) X hQ hr (hW) rfl [0] rfl rfl (⟨hF.symm, rfl⟩) ⟨Nat.le_of_ble_eq_true rfl, Nat.le_of_ble_eq_true rfl⟩ dX10_hasCouple_26

def F_X10_hasLine (lc : Int32) (x : Int32) : Int32 := if x < 0 then ((0 : Int32)) else (if lc ≤ x then ((0 : Int32)) else ((1 : Int32)))
set_option maxHeartbeats 4000000 in
set_option maxRecDepth 100000 in
theorem K_X10_hasLine (l : Launch) (g : GG) (v : Nat) (v3 : Nat) (v4 : Nat) (v5 : Nat) (v6 : Nat) (v7 : Nat) (v8 : Nat) (v9 : Nat) (v10 : Nat) (v11 : Nat) (v12 : Nat) (v13 : Nat) (v15 : Nat) (pe : Int32) (lc : Int32) (de : Int32) (gl : Int32) (x : Int32)  : MetI l g yX10_hasLine cX10_hasLine 2 (some .boolean) 0 0 0 [.ref v, .int x] [(v, .inr (10, [.int pe, .int lc, .int de, .ref v3, .ref v4, .ref v5, .ref v6, .ref v7, .ref v8, .ref v9, .ref v10, .ref v11, .ref v12, .ref v13, .int gl, .ref v15]))] (fun r u => r = (F_X10_hasLine lc x) ∧ u = [(v, .inr (10, [.int pe, .int lc, .int de, .ref v3, .ref v4, .ref v5, .ref v6, .ref v7, .ref v8, .ref v9, .ref v10, .ref v11, .ref v12, .ref v13, .int gl, .ref v15]))]) := by
  refine MetI.of (own := RX10) rfl (by decide) (Nat.le_of_ble_eq_true rfl) ?_
  intro p e s m below meth c A ls args Q hQ X hr hin hW hl
  have hx := X.1
  have hb := X.2.1
  have hl : lv_has ls 2 [(0, .ref v), (1, .int x)] := hl
  refine lv_iload_n (pc := 0) hx hb dX10_hasLine_0 rfl (lv_at hl 1 rfl) ?_
  refine lv_if_lt (tgt := 16) (pc := 1) hx hb dX10_hasLine_1 rfl (fun c1 => ?_) (fun c1 => ?_)
  · refine lv_iconst (v := 0) (pc := 16) hx hb dX10_hasLine_16 (by decide) ?_
    have hF : F_X10_hasLine lc x = (0 : Int32) := show F_X10_hasLine lc x = (0 : Int32) from by rw [F_X10_hasLine, if_pos c1]
    exact e_z (u := [(v, .inr (10, [.int pe, .int lc, .int de, .ref v3, .ref v4, .ref v5, .ref v6, .ref v7, .ref v8, .ref v9, .ref v10, .ref v11, .ref v12, .ref v13, .int gl, .ref v15]))]) X hQ hr (hW) rfl [0] rfl rfl (⟨hF.symm, rfl⟩) ⟨Nat.le_of_ble_eq_true rfl, Nat.le_of_ble_eq_true rfl⟩ dX10_hasLine_17
  · refine lv_iload_n (pc := 4) hx hb dX10_hasLine_4 rfl (lv_at hl 1 rfl) ?_
    refine lv_aload_n (pc := 5) hx hb dX10_hasLine_5 rfl (lv_at hl 0 rfl) ?_
    refine r_get X hW 0 ciX10 1 rfl (by decide) m_280 rfl rfl dX10_hasLine_6 ?_
    refine lv_icmp_ge (tgt := 16) (pc := 9) hx hb dX10_hasLine_9 rfl (fun c4 => ?_) (fun c4 => ?_)
    · refine lv_iconst (v := 0) (pc := 16) hx hb dX10_hasLine_16 (by decide) ?_
      have hF : F_X10_hasLine lc x = (0 : Int32) := show F_X10_hasLine lc x = (0 : Int32) from by rw [F_X10_hasLine, if_neg c1, if_pos c4]
      exact e_z (u := [(v, .inr (10, [.int pe, .int lc, .int de, .ref v3, .ref v4, .ref v5, .ref v6, .ref v7, .ref v8, .ref v9, .ref v10, .ref v11, .ref v12, .ref v13, .int gl, .ref v15]))]) X hQ hr (hW) rfl [0] rfl rfl (⟨hF.symm, rfl⟩) ⟨Nat.le_of_ble_eq_true rfl, Nat.le_of_ble_eq_true rfl⟩ dX10_hasLine_17
    · refine lv_iconst (v := 1) (pc := 12) hx hb dX10_hasLine_12 (by decide) ?_
      refine lv_goto (tgt := 17) (pc := 13) hx hb dX10_hasLine_13 rfl ?_
      have hF : F_X10_hasLine lc x = (1 : Int32) := show F_X10_hasLine lc x = (1 : Int32) from by rw [F_X10_hasLine, if_neg c1, if_neg c4]
      exact e_z (u := [(v, .inr (10, [.int pe, .int lc, .int de, .ref v3, .ref v4, .ref v5, .ref v6, .ref v7, .ref v8, .ref v9, .ref v10, .ref v11, .ref v12, .ref v13, .int gl, .ref v15]))]) X hQ hr (hW) rfl [0] rfl rfl (⟨hF.symm, rfl⟩) ⟨Nat.le_of_ble_eq_true rfl, Nat.le_of_ble_eq_true rfl⟩ dX10_hasLine_17

def F_X10_callable (K : Nat → Int32) (o : Nat) (h : Nat) : Int32 := K (h * 7 + o)
set_option maxHeartbeats 4000000 in
set_option maxRecDepth 100000 in
theorem K_X10_callable (l : Launch) (g : GG) (v : Nat) (v3 : Nat) (v4 : Nat) (v5 : Nat) (v6 : Nat) (v7 : Nat) (v8 : Nat) (v9 : Nat) (v10 : Nat) (v11 : Nat) (v12 : Nat) (v13 : Nat) (v15 : Nat) (pe : Int32) (lc : Int32) (de : Int32) (gl : Int32) (K : Nat → Int32) (o : Nat) (h : Nat) (ho : o < 7) (hh : h ≤ 24) : MetI l g yX10_callable cX10_callable 3 (some .int) 0 0 0 [.ref v, .int (nI o), .int (nI h)] [(v, .inr (10, [.int pe, .int lc, .int de, .ref v3, .ref v4, .ref v5, .ref v6, .ref v7, .ref v8, .ref v9, .ref v10, .ref v11, .ref v12, .ref v13, .int gl, .ref v15])), (v10, .inl (g.2.1 1, 175, .inl K))] (fun r u => r = (F_X10_callable K o h) ∧ u = [(v, .inr (10, [.int pe, .int lc, .int de, .ref v3, .ref v4, .ref v5, .ref v6, .ref v7, .ref v8, .ref v9, .ref v10, .ref v11, .ref v12, .ref v13, .int gl, .ref v15])), (v10, .inl (g.2.1 1, 175, .inl K))]) := by
  refine MetI.of (own := RX10) rfl (by decide) (Nat.le_of_ble_eq_true rfl) ?_
  intro p e s m below meth c A ls args Q hQ X hr hin hW hl
  have hx := X.1
  have hb := X.2.1
  have hl : lv_has ls 3 [(0, .ref v), (1, .int (nI o)), (2, .int (nI h))] := hl
  refine lv_aload_n (pc := 0) hx hb dX10_callable_0 rfl (lv_at hl 0 rfl) ?_
  refine r_get X hW 0 ciX10 10 rfl (by decide) m_311 rfl rfl dX10_callable_1 ?_
  refine lv_iload_n (pc := 4) hx hb dX10_callable_4 rfl (lv_at hl 2 rfl) ?_
  refine lv_bipush (v := 7) (pc := 5) hx hb dX10_callable_5 (by decide) ?_
  refine lv_imul (pc := 7) hx hb dX10_callable_7 ?_
  refine lv_topi (fun v1 ev1 => ?_)
  obtain rfl : v1 = nI (h * 7) := ev1.trans (pk_mul h 7)
  refine lv_iload_n (pc := 8) hx hb dX10_callable_8 rfl (lv_at hl 1 rfl) ?_
  refine lv_iadd (pc := 9) hx hb dX10_callable_9 ?_
  refine lv_topi (fun v2 ev2 => ?_)
  obtain rfl : v2 = nI (h * 7 + o) := ev2.trans (nI_add _ _)
  refine r_iald X hW 1 rfl (vp_in_nI (by omega) (by decide)) dX10_callable_10 ?_
  refine lv_topi (fun v3 ev3 => ?_)
  obtain rfl : v3 = K (h * 7 + o) := ev3.trans (by rw [nI_clamp (by omega)])
  have hF : F_X10_callable K o h = K (h * 7 + o) := show F_X10_callable K o h = K (h * 7 + o) from rfl
  exact e_i (u := [(v, .inr (10, [.int pe, .int lc, .int de, .ref v3, .ref v4, .ref v5, .ref v6, .ref v7, .ref v8, .ref v9, .ref v10, .ref v11, .ref v12, .ref v13, .int gl, .ref v15])), (v10, .inl (g.2.1 1, 175, .inl K))]) X hQ hr (hW) [0, 1] rfl rfl (⟨hF.symm, rfl⟩) ⟨Nat.le_of_ble_eq_true rfl, Nat.le_of_ble_eq_true rfl⟩ dX10_callable_11

def F_X10_appendToCard (cd : Nat → Int32) (cl : Nat → Int32) (o : Nat) (y : Int32) : Int32 × (Nat → Int32) × (Nat → Int32) := if nI (tN (cl o)) < 6 then ((nI (tN (cl o) + 1), (upd cd (o * 6 + tN (cl o)) y), (upd cl o (nI (tN (cl o) + 1))))) else (((-1 : Int32), cd, cl))
set_option maxHeartbeats 4000000 in
set_option maxRecDepth 100000 in
theorem K_X10_appendToCard (l : Launch) (g : GG) (v : Nat) (v3 : Nat) (v4 : Nat) (v5 : Nat) (v6 : Nat) (v7 : Nat) (v8 : Nat) (v9 : Nat) (v10 : Nat) (v11 : Nat) (v12 : Nat) (v13 : Nat) (v15 : Nat) (pe : Int32) (lc : Int32) (de : Int32) (gl : Int32) (cd : Nat → Int32) (cl : Nat → Int32) (o : Nat) (y : Int32) (ho : o < 7) (hcl : ∀ j : Nat, j < 7 → cl j = nI (tN (cl j)) ∧ tN (cl j) ≤ 6) : MetI l g yX10_appendToCard cX10_appendToCard 4 (some .int) 0 0 0 [.ref v, .int (nI o), .int y] [(v, .inr (10, [.int pe, .int lc, .int de, .ref v3, .ref v4, .ref v5, .ref v6, .ref v7, .ref v8, .ref v9, .ref v10, .ref v11, .ref v12, .ref v13, .int gl, .ref v15])), (v11, .inl (g.2.1 1, 42, .inl cd)), (v12, .inl (g.2.1 1, 7, .inl cl))] (fun r u => r = (F_X10_appendToCard cd cl o y).1 ∧ u = [(v, .inr (10, [.int pe, .int lc, .int de, .ref v3, .ref v4, .ref v5, .ref v6, .ref v7, .ref v8, .ref v9, .ref v10, .ref v11, .ref v12, .ref v13, .int gl, .ref v15])), (v11, .inl (g.2.1 1, 42, .inl ((F_X10_appendToCard cd cl o y).2.1))), (v12, .inl (g.2.1 1, 7, .inl ((F_X10_appendToCard cd cl o y).2.2)))]) := by
  refine MetI.of (own := RX10) rfl (by decide) (Nat.le_of_ble_eq_true rfl) ?_
  intro p e s m below meth c A ls args Q hQ X hr hin hW hl
  have hx := X.1
  have hb := X.2.1
  have hl : lv_has ls 4 [(0, .ref v), (1, .int (nI o)), (2, .int y)] := hl
  refine lv_aload_n (pc := 0) hx hb dX10_appendToCard_0 rfl (lv_at hl 0 rfl) ?_
  refine r_get X hW 0 ciX10 12 rfl (by decide) m_313 rfl rfl dX10_appendToCard_1 ?_
  refine lv_iload_n (pc := 4) hx hb dX10_appendToCard_4 rfl (lv_at hl 1 rfl) ?_
  refine r_iald X hW 2 rfl (vp_in_nI (by omega) (by decide)) dX10_appendToCard_5 ?_
  refine lv_topi (fun v1 ev1 => ?_)
  obtain rfl : v1 = cl o := ev1.trans (by rw [nI_clamp (by omega)])
  have ek := hcl o ho
  rw [ek.1]
  have ek2 := ek.2
  refine lv_istore_n (lv' := [(3, .int (nI (tN (cl o)))), (0, .ref v), (1, .int (nI o)), (2, .int y)]) (pc := 6) hx hb dX10_appendToCard_6 rfl hl (by decide) rfl (fun ls hl => ?_)
  refine lv_iload_n (pc := 7) hx hb dX10_appendToCard_7 rfl (lv_at hl 0 rfl) ?_
  refine lv_bipush (v := 6) (pc := 8) hx hb dX10_appendToCard_8 (by decide) ?_
  refine lv_icmp_lt (tgt := 15) (pc := 10) hx hb dX10_appendToCard_10 rfl (fun c2 => ?_) (fun c2 => ?_)
  · have h3 : (tN (cl o)) < 6 := (nI_ltI (a := (tN (cl o))) (b := 6) (by omega) (by omega)).mp c2
    refine lv_aload_n (pc := 15) hx hb dX10_appendToCard_15 rfl (lv_at hl 1 rfl) ?_
    refine r_get X hW 0 ciX10 11 rfl (by decide) m_312 rfl rfl dX10_appendToCard_16 ?_
    refine lv_iload_n (pc := 19) hx hb dX10_appendToCard_19 rfl (lv_at hl 2 rfl) ?_
    refine lv_bipush (v := 6) (pc := 20) hx hb dX10_appendToCard_20 (by decide) ?_
    refine lv_imul (pc := 22) hx hb dX10_appendToCard_22 ?_
    refine lv_topi (fun v4 ev4 => ?_)
    obtain rfl : v4 = nI (o * 6) := ev4.trans (pk_mul o 6)
    refine lv_iload_n (pc := 23) hx hb dX10_appendToCard_23 rfl (lv_at hl 0 rfl) ?_
    refine lv_iadd (pc := 24) hx hb dX10_appendToCard_24 ?_
    refine lv_topi (fun v5 ev5 => ?_)
    obtain rfl : v5 = nI (o * 6 + tN (cl o)) := ev5.trans (nI_add _ _)
    refine lv_iload_n (pc := 25) hx hb dX10_appendToCard_25 rfl (lv_at hl 3 rfl) ?_
    refine r_iast (ws' := [(v, .inr (10, [.int pe, .int lc, .int de, .ref v3, .ref v4, .ref v5, .ref v6, .ref v7, .ref v8, .ref v9, .ref v10, .ref v11, .ref v12, .ref v13, .int gl, .ref v15])), (v11, .inl (g.2.1 1, 42, .inl (upd cd (o * 6 + tN (cl o)) y))), (v12, .inl (g.2.1 1, 7, .inl cl))]) X hW 1 rfl (vp_in_nI (by omega) (by decide)) (f' := (upd cd (o * 6 + tN (cl o)) y)) (by rw [nI_clamp (by omega)]) rfl dX10_appendToCard_26 (fun H locs hW => ?_)
    refine lv_aload_n (pc := 27) hx hb dX10_appendToCard_27 rfl (lv_at hl 1 rfl) ?_
    refine r_get X hW 0 ciX10 12 rfl (by decide) m_313 rfl rfl dX10_appendToCard_28 ?_
    refine lv_iload_n (pc := 31) hx hb dX10_appendToCard_31 rfl (lv_at hl 2 rfl) ?_
    refine lv_iload_n (pc := 32) hx hb dX10_appendToCard_32 rfl (lv_at hl 0 rfl) ?_
    refine lv_iconst (v := 1) (pc := 33) hx hb dX10_appendToCard_33 (by decide) ?_
    refine lv_iadd (pc := 34) hx hb dX10_appendToCard_34 ?_
    refine lv_topi (fun v6 ev6 => ?_)
    obtain rfl : v6 = nI (tN (cl o) + 1) := ev6.trans (nI_add (tN (cl o)) 1)
    refine r_iast (ws' := [(v, .inr (10, [.int pe, .int lc, .int de, .ref v3, .ref v4, .ref v5, .ref v6, .ref v7, .ref v8, .ref v9, .ref v10, .ref v11, .ref v12, .ref v13, .int gl, .ref v15])), (v11, .inl (g.2.1 1, 42, .inl (upd cd (o * 6 + tN (cl o)) y))), (v12, .inl (g.2.1 1, 7, .inl (upd cl o (nI (tN (cl o) + 1)))))]) X hW 2 rfl (vp_in_nI (by omega) (by decide)) (f' := (upd cl o (nI (tN (cl o) + 1)))) (by rw [nI_clamp (by omega)]) rfl dX10_appendToCard_35 (fun H locs hW => ?_)
    refine lv_iload_n (pc := 36) hx hb dX10_appendToCard_36 rfl (lv_at hl 0 rfl) ?_
    refine lv_iconst (v := 1) (pc := 37) hx hb dX10_appendToCard_37 (by decide) ?_
    refine lv_iadd (pc := 38) hx hb dX10_appendToCard_38 ?_
    refine lv_topi (fun v7 ev7 => ?_)
    obtain rfl : v7 = nI (tN (cl o) + 1) := ev7.trans (nI_add (tN (cl o)) 1)
    have hF : F_X10_appendToCard cd cl o y = (nI (tN (cl o) + 1), (upd cd (o * 6 + tN (cl o)) y), (upd cl o (nI (tN (cl o) + 1)))) := show F_X10_appendToCard cd cl o y = (nI (tN (cl o) + 1), (upd cd (o * 6 + tN (cl o)) y), (upd cl o (nI (tN (cl o) + 1)))) from by rw [F_X10_appendToCard, if_pos c2]
    exact e_i (u := [(v, .inr (10, [.int pe, .int lc, .int de, .ref v3, .ref v4, .ref v5, .ref v6, .ref v7, .ref v8, .ref v9, .ref v10, .ref v11, .ref v12, .ref v13, .int gl, .ref v15])), (v11, .inl (g.2.1 1, 42, .inl (upd cd (o * 6 + tN (cl o)) y))), (v12, .inl (g.2.1 1, 7, .inl (upd cl o (nI (tN (cl o) + 1)))))]) X hQ hr (hW) [0, 1, 2] rfl rfl (⟨(congrArg Prod.fst hF).symm, by rw [hF]⟩) ⟨Nat.le_of_ble_eq_true rfl, Nat.le_of_ble_eq_true rfl⟩ dX10_appendToCard_39
  · have h8 : ¬ ((tN (cl o)) < 6) := fun q => c2 ((nI_ltI (a := (tN (cl o))) (b := 6) (by omega) (by omega)).mpr q)
    refine lv_iconst (v := (-1)) (pc := 13) hx hb dX10_appendToCard_13 (by decide) ?_
    have hF : F_X10_appendToCard cd cl o y = ((-1 : Int32), cd, cl) := show F_X10_appendToCard cd cl o y = ((-1 : Int32), cd, cl) from by rw [F_X10_appendToCard, if_neg c2]
    exact e_i (u := [(v, .inr (10, [.int pe, .int lc, .int de, .ref v3, .ref v4, .ref v5, .ref v6, .ref v7, .ref v8, .ref v9, .ref v10, .ref v11, .ref v12, .ref v13, .int gl, .ref v15])), (v11, .inl (g.2.1 1, 42, .inl cd)), (v12, .inl (g.2.1 1, 7, .inl cl))]) X hQ hr (hW) [0, 1, 2] rfl rfl (⟨(congrArg Prod.fst hF).symm, by rw [hF]⟩) ⟨Nat.le_of_ble_eq_true rfl, Nat.le_of_ble_eq_true rfl⟩ dX10_appendToCard_14

def F_X10_emptyCards  : (Nat → Int32) := (fun _ => 0)
set_option maxHeartbeats 4000000 in
set_option maxRecDepth 100000 in
theorem K_X10_emptyCards (l : Launch) (g : GG) (v : Nat) (v3 : Nat) (v4 : Nat) (v5 : Nat) (v6 : Nat) (v7 : Nat) (v8 : Nat) (v9 : Nat) (v10 : Nat) (v11 : Nat) (v12 : Nat) (v13 : Nat) (v15 : Nat) (pe : Int32) (lc : Int32) (de : Int32) (gl : Int32) (cl : Nat → Int32)  : MetV l g yX10_emptyCards cX10_emptyCards 1 none 1 0 0 [.ref v] [(v, .inr (10, [.int pe, .int lc, .int de, .ref v3, .ref v4, .ref v5, .ref v6, .ref v7, .ref v8, .ref v9, .ref v10, .ref v11, .ref v12, .ref v13, .int gl, .ref v15])), (v12, .inl (g.2.1 1, 7, .inl cl))] (fun u => u = [(v, .inr (10, [.int pe, .int lc, .int de, .ref v3, .ref v4, .ref v5, .ref v6, .ref v7, .ref v8, .ref v9, .ref v10, .ref v11, .ref v12, .ref v13, .int gl, .ref v15])), (v12, .inl (g.2.1 1, 7, .inl (F_X10_emptyCards)))]) := by
  refine MetV.of (own := RX10) rfl (by decide) (Nat.le_of_ble_eq_true rfl) ?_
  intro p e s m below meth c A ls args Q hQ X hr hin hW hl
  have hx := X.1
  have hb := X.2.1
  have hl : lv_has ls 1 [(0, .ref v)] := hl
  refine lv_aload_n (pc := 0) hx hb dX10_emptyCards_0 rfl (lv_at hl 0 rfl) ?_
  refine r_get X hW 0 ciX10 12 rfl (by decide) m_313 rfl rfl dX10_emptyCards_1 ?_
  refine lv_iconst (v := 0) (pc := 4) hx hb dX10_emptyCards_4 (by decide) ?_
  refine c_Sv (pc := 5) (As := [.ref v12, .int 0]) (rest := []) (wr := [(v, .inr (10, [.int pe, .int lc, .int de, .ref v3, .ref v4, .ref v5, .ref v6, .ref v7, .ref v8, .ref v9, .ref v10, .ref v11, .ref v12, .ref v13, .int gl, .ref v15]))]) X hW (C_J7_fillE l g v12 7 cl 0 (by decide)) vX10_63 [1] [0] rfl rfl rfl rfl rfl rfl hl.1 rfl (Nat.le_of_ble_eq_true rfl) ⟨Nat.le_of_ble_eq_true rfl, Nat.le_of_ble_eq_true rfl⟩ ⟨Nat.le_of_ble_eq_true rfl, Nat.le_of_ble_eq_true rfl⟩ dX10_emptyCards_5 (fun u9 H locs hq hW => ?_)
  obtain rfl := hq
  have hW : WD g A s _ _ [(v, .inr (10, [.int pe, .int lc, .int de, .ref v3, .ref v4, .ref v5, .ref v6, .ref v7, .ref v8, .ref v9, .ref v10, .ref v11, .ref v12, .ref v13, .int gl, .ref v15])), (v12, .inl (g.2.1 1, 7, .inl (fun _ => 0)))] := hW
  have hF : F_X10_emptyCards = (fun _ => 0) := show F_X10_emptyCards = (fun _ => 0) from rfl
  exact e_v (u := [(v, .inr (10, [.int pe, .int lc, .int de, .ref v3, .ref v4, .ref v5, .ref v6, .ref v7, .ref v8, .ref v9, .ref v10, .ref v11, .ref v12, .ref v13, .int gl, .ref v15])), (v12, .inl (g.2.1 1, 7, .inl (fun _ => 0)))]) X hQ hr (hW) [0, 1] rfl rfl (by rw [hF]) ⟨Nat.le_of_ble_eq_true rfl, Nat.le_of_ble_eq_true rfl⟩ dX10_emptyCards_8

def F_X10_setTale (ta : Nat → Int32) (n : Nat) (o : Nat) (h : Int32) : (Nat → Int32) := (upd ta (n * 7 + o) h)
set_option maxHeartbeats 4000000 in
set_option maxRecDepth 100000 in
theorem K_X10_setTale (l : Launch) (g : GG) (v : Nat) (v3 : Nat) (v4 : Nat) (v5 : Nat) (v6 : Nat) (v7 : Nat) (v8 : Nat) (v9 : Nat) (v10 : Nat) (v11 : Nat) (v12 : Nat) (v13 : Nat) (v15 : Nat) (pe : Int32) (lc : Int32) (de : Int32) (gl : Int32) (ta : Nat → Int32) (n : Nat) (o : Nat) (h : Int32) (hn : n < 4) (ho : o < 7) : MetV l g yX10_setTale cX10_setTale 4 none 0 0 0 [.ref v, .int (nI n), .int (nI o), .int h] [(v, .inr (10, [.int pe, .int lc, .int de, .ref v3, .ref v4, .ref v5, .ref v6, .ref v7, .ref v8, .ref v9, .ref v10, .ref v11, .ref v12, .ref v13, .int gl, .ref v15])), (v13, .inl (g.2.1 1, 28, .inl ta))] (fun u => u = [(v, .inr (10, [.int pe, .int lc, .int de, .ref v3, .ref v4, .ref v5, .ref v6, .ref v7, .ref v8, .ref v9, .ref v10, .ref v11, .ref v12, .ref v13, .int gl, .ref v15])), (v13, .inl (g.2.1 1, 28, .inl (F_X10_setTale ta n o h)))]) := by
  refine MetV.of (own := RX10) rfl (by decide) (Nat.le_of_ble_eq_true rfl) ?_
  intro p e s m below meth c A ls args Q hQ X hr hin hW hl
  have hx := X.1
  have hb := X.2.1
  have hl : lv_has ls 4 [(0, .ref v), (1, .int (nI n)), (2, .int (nI o)), (3, .int h)] := hl
  refine lv_aload_n (pc := 0) hx hb dX10_setTale_0 rfl (lv_at hl 0 rfl) ?_
  refine r_get X hW 0 ciX10 13 rfl (by decide) m_314 rfl rfl dX10_setTale_1 ?_
  refine lv_iload_n (pc := 4) hx hb dX10_setTale_4 rfl (lv_at hl 1 rfl) ?_
  refine lv_bipush (v := 7) (pc := 5) hx hb dX10_setTale_5 (by decide) ?_
  refine lv_imul (pc := 7) hx hb dX10_setTale_7 ?_
  refine lv_topi (fun v1 ev1 => ?_)
  obtain rfl : v1 = nI (n * 7) := ev1.trans (pk_mul n 7)
  refine lv_iload_n (pc := 8) hx hb dX10_setTale_8 rfl (lv_at hl 2 rfl) ?_
  refine lv_iadd (pc := 9) hx hb dX10_setTale_9 ?_
  refine lv_topi (fun v2 ev2 => ?_)
  obtain rfl : v2 = nI (n * 7 + o) := ev2.trans (nI_add _ _)
  refine lv_iload_n (pc := 10) hx hb dX10_setTale_10 rfl (lv_at hl 3 rfl) ?_
  refine r_iast (ws' := [(v, .inr (10, [.int pe, .int lc, .int de, .ref v3, .ref v4, .ref v5, .ref v6, .ref v7, .ref v8, .ref v9, .ref v10, .ref v11, .ref v12, .ref v13, .int gl, .ref v15])), (v13, .inl (g.2.1 1, 28, .inl (upd ta (n * 7 + o) h)))]) X hW 1 rfl (vp_in_nI (by omega) (by decide)) (f' := (upd ta (n * 7 + o) h)) (by rw [nI_clamp (by omega)]) rfl dX10_setTale_11 (fun H locs hW => ?_)
  have hF : F_X10_setTale ta n o h = (upd ta (n * 7 + o) h) := show F_X10_setTale ta n o h = (upd ta (n * 7 + o) h) from rfl
  exact e_v (u := [(v, .inr (10, [.int pe, .int lc, .int de, .ref v3, .ref v4, .ref v5, .ref v6, .ref v7, .ref v8, .ref v9, .ref v10, .ref v11, .ref v12, .ref v13, .int gl, .ref v15])), (v13, .inl (g.2.1 1, 28, .inl (upd ta (n * 7 + o) h)))]) X hQ hr (hW) [0, 1] rfl rfl (by rw [hF]) ⟨Nat.le_of_ble_eq_true rfl, Nat.le_of_ble_eq_true rfl⟩ dX10_setTale_12

theorem dX11_planAt_16 : decode cX11_planAt 16 = .ok (.aload_n 0, 1) := by decide +kernel
theorem dX11_planAt_17 : decode cX11_planAt 17 = .ok (.getfield 24, 3) := by decide +kernel
theorem dX11_planAt_20 : decode cX11_planAt 20 = .ok (.iload_n 1, 1) := by decide +kernel
theorem dX11_planAt_21 : decode cX11_planAt 21 = .ok (.aaload, 1) := by decide +kernel
theorem dX11_isHour_0 : decode cX11_isHour 0 = .ok (.iload_n 0, 1) := by decide +kernel
theorem dX11_isHour_1 : decode cX11_isHour 1 = .ok (.iconst 1, 1) := by decide +kernel
theorem dX11_isHour_2 : decode cX11_isHour 2 = .ok (.if_icmp .lt 13, 3) := by decide +kernel
theorem dX11_isHour_15 : decode cX11_isHour 15 = .ok (.iconst 0, 1) := by decide +kernel
theorem dX11_isHour_16 : decode cX11_isHour 16 = .ok (.ireturn, 1) := by decide +kernel
theorem dX11_isHour_5 : decode cX11_isHour 5 = .ok (.iload_n 0, 1) := by decide +kernel
theorem dX11_isHour_6 : decode cX11_isHour 6 = .ok (.bipush 24, 2) := by decide +kernel
theorem dX11_isHour_8 : decode cX11_isHour 8 = .ok (.if_icmp .gt 7, 3) := by decide +kernel
theorem dX11_isHour_11 : decode cX11_isHour 11 = .ok (.iconst 1, 1) := by decide +kernel
theorem dX11_isHour_12 : decode cX11_isHour 12 = .ok (.goto 4, 3) := by decide +kernel
theorem dX11_isHourOrFirst_0 : decode cX11_isHourOrFirst 0 = .ok (.iload_n 0, 1) := by decide +kernel
theorem dX11_isHourOrFirst_1 : decode cX11_isHourOrFirst 1 = .ok (.ifCond .lt 13, 3) := by decide +kernel
theorem dX11_isHourOrFirst_14 : decode cX11_isHourOrFirst 14 = .ok (.iconst 0, 1) := by decide +kernel
theorem dX11_isHourOrFirst_15 : decode cX11_isHourOrFirst 15 = .ok (.ireturn, 1) := by decide +kernel
theorem dX11_isHourOrFirst_4 : decode cX11_isHourOrFirst 4 = .ok (.iload_n 0, 1) := by decide +kernel
theorem dX11_isHourOrFirst_5 : decode cX11_isHourOrFirst 5 = .ok (.bipush 24, 2) := by decide +kernel
theorem dX11_isHourOrFirst_7 : decode cX11_isHourOrFirst 7 = .ok (.if_icmp .gt 7, 3) := by decide +kernel
theorem dX11_isHourOrFirst_10 : decode cX11_isHourOrFirst 10 = .ok (.iconst 1, 1) := by decide +kernel
theorem dX11_isHourOrFirst_11 : decode cX11_isHourOrFirst 11 = .ok (.goto 4, 3) := by decide +kernel
theorem dX11_isNews_0 : decode cX11_isNews 0 = .ok (.iload_n 0, 1) := by decide +kernel
theorem dX11_isNews_1 : decode cX11_isNews 1 = .ok (.ifCond .lt 12, 3) := by decide +kernel
theorem dX11_isNews_13 : decode cX11_isNews 13 = .ok (.iconst 0, 1) := by decide +kernel
theorem dX11_isNews_14 : decode cX11_isNews 14 = .ok (.ireturn, 1) := by decide +kernel
theorem dX11_isNews_4 : decode cX11_isNews 4 = .ok (.iload_n 0, 1) := by decide +kernel
theorem dX11_isNews_5 : decode cX11_isNews 5 = .ok (.iconst 4, 1) := by decide +kernel
theorem dX11_isNews_6 : decode cX11_isNews 6 = .ok (.if_icmp .ge 7, 3) := by decide +kernel
theorem dX11_isNews_9 : decode cX11_isNews 9 = .ok (.iconst 1, 1) := by decide +kernel
theorem dX11_isNews_10 : decode cX11_isNews 10 = .ok (.goto 4, 3) := by decide +kernel
theorem dX11_told_10 : decode cX11_told 10 = .ok (.iload_n 2, 1) := by decide +kernel
theorem dX11_told_11 : decode cX11_told 11 = .ok (.ifCond .ge 5, 3) := by decide +kernel
theorem dX11_told_16 : decode cX11_told 16 = .ok (.iload_n 2, 1) := by decide +kernel
theorem dX11_told_17 : decode cX11_told 17 = .ok (.iconst 4, 1) := by decide +kernel
theorem dX11_told_18 : decode cX11_told 18 = .ok (.if_icmp .ge 40, 3) := by decide +kernel
theorem dX11_told_58 : decode cX11_told 58 = .ok (.iload_n 2, 1) := by decide +kernel
theorem dX11_told_59 : decode cX11_told 59 = .ok (.iconst 4, 1) := by decide +kernel
theorem dX11_told_60 : decode cX11_told 60 = .ok (.irem, 1) := by decide +kernel
theorem dX11_told_61 : decode cX11_told 61 = .ok (.istore 4, 2) := by decide +kernel
theorem dX11_told_63 : decode cX11_told 63 = .ok (.iload_n 2, 1) := by decide +kernel
theorem dX11_told_64 : decode cX11_told 64 = .ok (.iconst 4, 1) := by decide +kernel
theorem dX11_told_65 : decode cX11_told 65 = .ok (.idiv, 1) := by decide +kernel
theorem dX11_told_66 : decode cX11_told 66 = .ok (.tableswitch 50 1 3 #[26, 34, 42], 26) := by decide +kernel
theorem dX11_told_92 : decode cX11_told 92 = .ok (.aload_n 3, 1) := by decide +kernel
theorem dX11_told_93 : decode cX11_told 93 = .ok (.getfield 114, 3) := by decide +kernel
theorem dX11_told_96 : decode cX11_told 96 = .ok (.iload 4, 2) := by decide +kernel
theorem dX11_told_98 : decode cX11_told 98 = .ok (.iaload, 1) := by decide +kernel
theorem dX11_told_99 : decode cX11_told 99 = .ok (.ireturn, 1) := by decide +kernel
theorem dX11_told_100 : decode cX11_told 100 = .ok (.aload_n 3, 1) := by decide +kernel
theorem dX11_told_101 : decode cX11_told 101 = .ok (.getfield 118, 3) := by decide +kernel
theorem dX11_told_104 : decode cX11_told 104 = .ok (.iload 4, 2) := by decide +kernel
theorem dX11_told_106 : decode cX11_told 106 = .ok (.iaload, 1) := by decide +kernel
theorem dX11_told_107 : decode cX11_told 107 = .ok (.ireturn, 1) := by decide +kernel
theorem dX11_told_108 : decode cX11_told 108 = .ok (.aload_n 3, 1) := by decide +kernel
theorem dX11_told_109 : decode cX11_told 109 = .ok (.getfield 121, 3) := by decide +kernel
theorem dX11_told_112 : decode cX11_told 112 = .ok (.iload 4, 2) := by decide +kernel
theorem dX11_told_114 : decode cX11_told 114 = .ok (.iaload, 1) := by decide +kernel
theorem dX11_told_115 : decode cX11_told 115 = .ok (.ireturn, 1) := by decide +kernel
theorem dX11_told_116 : decode cX11_told 116 = .ok (.iconst (-1), 1) := by decide +kernel
theorem dX11_told_117 : decode cX11_told 117 = .ok (.ireturn, 1) := by decide +kernel
theorem dX11_told_21 : decode cX11_told 21 = .ok (.iload_n 2, 1) := by decide +kernel
theorem dX11_told_22 : decode cX11_told 22 = .ok (.ifCond .ne 10, 3) := by decide +kernel
theorem dX11_told_32 : decode cX11_told 32 = .ok (.iload_n 2, 1) := by decide +kernel
theorem dX11_told_33 : decode cX11_told 33 = .ok (.iconst 1, 1) := by decide +kernel
theorem dX11_told_34 : decode cX11_told 34 = .ok (.if_icmp .ne 10, 3) := by decide +kernel
theorem dX11_told_44 : decode cX11_told 44 = .ok (.iload_n 2, 1) := by decide +kernel
theorem dX11_told_45 : decode cX11_told 45 = .ok (.iconst 2, 1) := by decide +kernel
theorem dX11_told_46 : decode cX11_told 46 = .ok (.if_icmp .ne 10, 3) := by decide +kernel
theorem dX11_told_56 : decode cX11_told 56 = .ok (.iconst (-1), 1) := by decide +kernel
theorem dX11_told_57 : decode cX11_told 57 = .ok (.ireturn, 1) := by decide +kernel
theorem dX11_told_49 : decode cX11_told 49 = .ok (.aload_n 3, 1) := by decide +kernel
theorem dX11_told_50 : decode cX11_told 50 = .ok (.getfield 111, 3) := by decide +kernel
theorem dX11_told_53 : decode cX11_told 53 = .ok (.goto 4, 3) := by decide +kernel
theorem dX11_told_37 : decode cX11_told 37 = .ok (.aload_n 3, 1) := by decide +kernel
theorem dX11_told_38 : decode cX11_told 38 = .ok (.getfield 108, 3) := by decide +kernel
theorem dX11_told_41 : decode cX11_told 41 = .ok (.goto 16, 3) := by decide +kernel
theorem dX11_told_25 : decode cX11_told 25 = .ok (.aload_n 3, 1) := by decide +kernel
theorem dX11_told_26 : decode cX11_told 26 = .ok (.getfield 105, 3) := by decide +kernel
theorem dX11_told_29 : decode cX11_told 29 = .ok (.goto 28, 3) := by decide +kernel
theorem dX11_down_12 : decode cX11_down 12 = .ok (.aload 4, 2) := by decide +kernel
theorem dX11_down_14 : decode cX11_down 14 = .ok (.iload_n 2, 1) := by decide +kernel
theorem dX11_down_15 : decode cX11_down 15 = .ok (.invokevirtual 124, 3) := by decide +kernel
theorem dX11_down_18 : decode cX11_down 18 = .ok (.ifCond .eq 15, 3) := by decide +kernel
theorem dX11_down_21 : decode cX11_down 21 = .ok (.iload_n 3, 1) := by decide +kernel
theorem dX11_down_22 : decode cX11_down 22 = .ok (.iconst (-1), 1) := by decide +kernel
theorem dX11_down_23 : decode cX11_down 23 = .ok (.if_icmp .eq 12, 3) := by decide +kernel
theorem dX11_down_35 : decode cX11_down 35 = .ok (.aload 4, 2) := by decide +kernel
theorem dX11_down_37 : decode cX11_down 37 = .ok (.iload_n 2, 1) := by decide +kernel
theorem dX11_down_38 : decode cX11_down 38 = .ok (.iload_n 3, 1) := by decide +kernel
theorem dX11_down_39 : decode cX11_down 39 = .ok (.invokevirtual 137, 3) := by decide +kernel
theorem dX11_down_42 : decode cX11_down 42 = .ok (.iconst 1, 1) := by decide +kernel
theorem dX11_down_43 : decode cX11_down 43 = .ok (.ireturn, 1) := by decide +kernel
theorem dX11_down_26 : decode cX11_down 26 = .ok (.iload_n 3, 1) := by decide +kernel
theorem dX11_down_27 : decode cX11_down 27 = .ok (.invokestatic 134, 3) := by decide +kernel
theorem dX11_down_30 : decode cX11_down 30 = .ok (.ifCond .ne 5, 3) := by decide +kernel
theorem dX11_may_12 : decode cX11_may 12 = .ok (.aload 5, 2) := by decide +kernel
theorem dX11_may_14 : decode cX11_may 14 = .ok (.iload_n 2, 1) := by decide +kernel
theorem dX11_may_15 : decode cX11_may 15 = .ok (.iload_n 3, 1) := by decide +kernel
theorem dX11_may_16 : decode cX11_may 16 = .ok (.invokevirtual 141, 3) := by decide +kernel
theorem dX11_may_19 : decode cX11_may 19 = .ok (.ifCond .eq 11, 3) := by decide +kernel
theorem dX11_may_22 : decode cX11_may 22 = .ok (.iload 4, 2) := by decide +kernel
theorem dX11_may_24 : decode cX11_may 24 = .ok (.invokestatic 134, 3) := by decide +kernel
theorem dX11_may_27 : decode cX11_may 27 = .ok (.ifCond .ne 5, 3) := by decide +kernel
theorem dX11_may_32 : decode cX11_may 32 = .ok (.aload 5, 2) := by decide +kernel
theorem dX11_may_34 : decode cX11_may 34 = .ok (.iload_n 2, 1) := by decide +kernel
theorem dX11_may_35 : decode cX11_may 35 = .ok (.iload 4, 2) := by decide +kernel
theorem dX11_may_37 : decode cX11_may 37 = .ok (.invokevirtual 145, 3) := by decide +kernel
theorem dX11_may_40 : decode cX11_may 40 = .ok (.iload_n 3, 1) := by decide +kernel
theorem dX11_may_41 : decode cX11_may 41 = .ok (.invokestatic 148, 3) := by decide +kernel
theorem dX11_may_44 : decode cX11_may 44 = .ok (.ifCond .eq 7, 3) := by decide +kernel
theorem dX11_may_51 : decode cX11_may 51 = .ok (.iconst 0, 1) := by decide +kernel
theorem dX11_may_52 : decode cX11_may 52 = .ok (.ireturn, 1) := by decide +kernel
theorem dX11_may_47 : decode cX11_may 47 = .ok (.iconst 1, 1) := by decide +kernel
theorem dX11_may_48 : decode cX11_may 48 = .ok (.goto 4, 3) := by decide +kernel
theorem dX11_card_12 : decode cX11_card 12 = .ok (.aload 4, 2) := by decide +kernel
theorem dX11_card_14 : decode cX11_card 14 = .ok (.iload_n 2, 1) := by decide +kernel
theorem dX11_card_15 : decode cX11_card 15 = .ok (.iload_n 3, 1) := by decide +kernel
theorem dX11_card_16 : decode cX11_card 16 = .ok (.invokevirtual 141, 3) := by decide +kernel
theorem dX11_card_19 : decode cX11_card 19 = .ok (.ifCond .ne 5, 3) := by decide +kernel
theorem dX11_card_24 : decode cX11_card 24 = .ok (.aload 4, 2) := by decide +kernel
theorem dX11_card_26 : decode cX11_card 26 = .ok (.iload_n 2, 1) := by decide +kernel
theorem dX11_card_27 : decode cX11_card 27 = .ok (.iload_n 3, 1) := by decide +kernel
theorem dX11_card_28 : decode cX11_card 28 = .ok (.invokevirtual 270, 3) := by decide +kernel
theorem dX11_card_31 : decode cX11_card 31 = .ok (.ireturn, 1) := by decide +kernel
theorem dX11_blank_12 : decode cX11_blank 12 = .ok (.aload_n 2, 1) := by decide +kernel
theorem dX11_blank_13 : decode cX11_blank 13 = .ok (.invokevirtual 273, 3) := by decide +kernel
theorem dX11_blank_16 : decode cX11_blank 16 = .ok (.iconst 1, 1) := by decide +kernel
theorem dX11_blank_17 : decode cX11_blank 17 = .ok (.ireturn, 1) := by decide +kernel
theorem dX11_tale_12 : decode cX11_tale 12 = .ok (.iload_n 2, 1) := by decide +kernel
theorem dX11_tale_13 : decode cX11_tale 13 = .ok (.invokestatic 208, 3) := by decide +kernel
theorem dX11_tale_16 : decode cX11_tale 16 = .ok (.ifCond .eq 26, 3) := by decide +kernel
theorem dX11_tale_19 : decode cX11_tale 19 = .ok (.aload 5, 2) := by decide +kernel
theorem dX11_tale_21 : decode cX11_tale 21 = .ok (.iload_n 3, 1) := by decide +kernel
theorem dX11_tale_22 : decode cX11_tale 22 = .ok (.invokevirtual 168, 3) := by decide +kernel
theorem dX11_tale_25 : decode cX11_tale 25 = .ok (.ifCond .eq 17, 3) := by decide +kernel
theorem dX11_tale_28 : decode cX11_tale 28 = .ok (.iload 4, 2) := by decide +kernel
theorem dX11_tale_30 : decode cX11_tale 30 = .ok (.iconst (-1), 1) := by decide +kernel
theorem dX11_tale_31 : decode cX11_tale 31 = .ok (.if_icmp .eq 13, 3) := by decide +kernel
theorem dX11_tale_44 : decode cX11_tale 44 = .ok (.aload 5, 2) := by decide +kernel
theorem dX11_tale_46 : decode cX11_tale 46 = .ok (.iload_n 2, 1) := by decide +kernel
theorem dX11_tale_47 : decode cX11_tale 47 = .ok (.iload_n 3, 1) := by decide +kernel
theorem dX11_tale_48 : decode cX11_tale 48 = .ok (.iload 4, 2) := by decide +kernel
theorem dX11_tale_50 : decode cX11_tale 50 = .ok (.invokevirtual 308, 3) := by decide +kernel
theorem dX11_tale_53 : decode cX11_tale 53 = .ok (.iconst 1, 1) := by decide +kernel
theorem dX11_tale_54 : decode cX11_tale 54 = .ok (.ireturn, 1) := by decide +kernel
theorem dX11_tale_34 : decode cX11_tale 34 = .ok (.iload 4, 2) := by decide +kernel
theorem dX11_tale_36 : decode cX11_tale 36 = .ok (.invokestatic 186, 3) := by decide +kernel
theorem dX11_tale_39 : decode cX11_tale 39 = .ok (.ifCond .ne 5, 3) := by decide +kernel
theorem tmod_in {x : Int32} (h : 0 ≤ x) : tmod x = nI (tN (tmod x)) ∧ tN (tmod x) < 4 := by
  obtain ⟨k, hk, rfl⟩ := nI_of (Int32.not_lt.mpr h)
  have e : tmod (nI k) = nI (k % 4) := pk_rem (a := k) (d := 4) hk (by decide) (by decide)
  obtain ⟨q1, q2⟩ := tN_of (k := k % 4) (by omega) e
  exact ⟨q1, by rw [q2]; omega⟩

set_option maxHeartbeats 4000000 in
set_option maxRecDepth 100000 in
theorem C_X11_planAt1 (l : Launch) (g : GG) (h0 : Nat) (a0 : Nat) (a1 : Nat) (a2 : Nat) (a3 : Nat) (a4 : Nat) (a5 : Nat) (a6 : Nat) (a7 : Nat) (a8 : Nat) (a9 : Nat) (a10 : Nat) (nv : Nat) (np : Nat) (cc : Int32) (fB : Nat → Option Nat) (i : Nat) (v : Nat) (hi : i < np) (hn : np ≤ 12) (hA : fB i = some v) : MetQ l g yX11_planAt cX11_planAt 2 (some (.object "NoonValley$Plan")) 0 0 0 [.ref h0, .int (nI i)] [(h0, .inr (11, [.ref a0, .ref a1, .ref a2, .ref a3, .ref a4, .ref a5, .ref a6, .ref a7, .ref a8, .ref a9, .ref a10, .int (nI nv), .int (nI np), .int cc])), (a2, .inl (g.2.1 5, 12, .inr (.inr (.inr (.inr fB)))))] (fun r u => r = some v ∧ u = [(h0, .inr (11, [.ref a0, .ref a1, .ref a2, .ref a3, .ref a4, .ref a5, .ref a6, .ref a7, .ref a8, .ref a9, .ref a10, .int (nI nv), .int (nI np), .int cc])), (a2, .inl (g.2.1 5, 12, .inr (.inr (.inr (.inr fB)))))]) := by
  refine MetQ.of (own := RX11) rfl (by decide) (Nat.le_of_ble_eq_true rfl) ?_
  intro p e s m below meth c A ls args Q hQ X hr hin hW hl
  have hx := X.1
  have hb := X.2.1
  have hl : lv_has ls 2 [(0, .ref h0), (1, .int (nI i))] := hl
  refine lv_iload_n (pc := 0) hx hb dX11_planAt_0 rfl (lv_at hl 1 rfl) ?_
  refine lv_if_lt (tgt := 12) (pc := 1) hx hb dX11_planAt_1 rfl (fun c1 => absurd c1 (nI_nn (by omega))) (fun c1 => ?_)
  refine lv_iload_n (pc := 4) hx hb dX11_planAt_4 rfl (lv_at hl 1 rfl) ?_
  refine lv_aload_n (pc := 5) hx hb dX11_planAt_5 rfl (lv_at hl 0 rfl) ?_
  refine r_get X hW 0 ciX11 12 rfl (by decide) m_365 rfl rfl dX11_planAt_6 ?_
  refine lv_icmp_lt (tgt := 16) (pc := 9) hx hb dX11_planAt_9 rfl (fun c2 => ?_) (fun c2 => absurd ((nI_ltI (by omega) (by omega)).mpr hi) c2)
  refine lv_aload_n (pc := 16) hx hb dX11_planAt_16 rfl (lv_at hl 0 rfl) ?_
  refine r_get X hW 0 ciX11 2 rfl (by decide) m_355 rfl rfl dX11_planAt_17 ?_
  refine lv_iload_n (pc := 20) hx hb dX11_planAt_20 rfl (lv_at hl 1 rfl) ?_
  refine va_aldq (pc := 21) hx hb X.2.2.2.2.2.1.1 hW.1 1 5 rfl rfl (vp_in_nI (by omega) (by decide)) dX11_planAt_21 ?_
  rw [show fB (nI i).toNatClampNeg = some v from (by rw [nI_clamp (by omega)]; exact hA)]
  exact e_q X hQ hr (Or.inl ⟨_, rfl⟩) hW (u := [(h0, .inr (11, [.ref a0, .ref a1, .ref a2, .ref a3, .ref a4, .ref a5, .ref a6, .ref a7, .ref a8, .ref a9, .ref a10, .int (nI nv), .int (nI np), .int cc])), (a2, .inl (g.2.1 5, 12, .inr (.inr (.inr (.inr fB)))))]) (some v) rfl [0, 1] rfl rfl (⟨rfl, rfl⟩) ⟨Nat.le_of_ble_eq_true rfl, Nat.le_of_ble_eq_true rfl⟩ dX11_planAt_22

set_option maxHeartbeats 4000000 in
set_option maxRecDepth 100000 in
theorem C_X11_planAt0 (l : Launch) (g : GG) (h0 : Nat) (a0 : Nat) (a1 : Nat) (a2 : Nat) (a3 : Nat) (a4 : Nat) (a5 : Nat) (a6 : Nat) (a7 : Nat) (a8 : Nat) (a9 : Nat) (a10 : Nat) (nv : Nat) (np : Nat) (cc : Int32) (fB : Nat → Option Nat) (x : Int32) (hbad : x < 0 ∨ nI np ≤ x) : MetQ l g yX11_planAt cX11_planAt 2 (some (.object "NoonValley$Plan")) 0 0 0 [.ref h0, .int x] [(h0, .inr (11, [.ref a0, .ref a1, .ref a2, .ref a3, .ref a4, .ref a5, .ref a6, .ref a7, .ref a8, .ref a9, .ref a10, .int (nI nv), .int (nI np), .int cc])), (a2, .inl (g.2.1 5, 12, .inr (.inr (.inr (.inr fB)))))] (fun r u => r = none ∧ u = [(h0, .inr (11, [.ref a0, .ref a1, .ref a2, .ref a3, .ref a4, .ref a5, .ref a6, .ref a7, .ref a8, .ref a9, .ref a10, .int (nI nv), .int (nI np), .int cc])), (a2, .inl (g.2.1 5, 12, .inr (.inr (.inr (.inr fB)))))]) := by
  refine MetQ.of (own := RX11) rfl (by decide) (Nat.le_of_ble_eq_true rfl) ?_
  intro p e s m below meth c A ls args Q hQ X hr hin hW hl
  have hx := X.1
  have hb := X.2.1
  have hl : lv_has ls 2 [(0, .ref h0), (1, .int x)] := hl
  refine lv_iload_n (pc := 0) hx hb dX11_planAt_0 rfl (lv_at hl 1 rfl) ?_
  refine lv_if_lt (tgt := 12) (pc := 1) hx hb dX11_planAt_1 rfl (fun c1 => ?_) (fun c1 => ?_)
  · refine lv_null (pc := 12) hx hb dX11_planAt_12 ?_
    refine lv_goto (tgt := 22) (pc := 13) hx hb dX11_planAt_13 rfl ?_
    exact e_q X hQ hr (Or.inl ⟨_, rfl⟩) hW (u := [(h0, .inr (11, [.ref a0, .ref a1, .ref a2, .ref a3, .ref a4, .ref a5, .ref a6, .ref a7, .ref a8, .ref a9, .ref a10, .int (nI nv), .int (nI np), .int cc])), (a2, .inl (g.2.1 5, 12, .inr (.inr (.inr (.inr fB)))))]) none rfl [0, 1] rfl rfl (⟨rfl, rfl⟩) ⟨Nat.le_of_ble_eq_true rfl, Nat.le_of_ble_eq_true rfl⟩ dX11_planAt_22
  · have b1_ := c1
    refine lv_iload_n (pc := 4) hx hb dX11_planAt_4 rfl (lv_at hl 1 rfl) ?_
    refine lv_aload_n (pc := 5) hx hb dX11_planAt_5 rfl (lv_at hl 0 rfl) ?_
    refine r_get X hW 0 ciX11 12 rfl (by decide) m_365 rfl rfl dX11_planAt_6 ?_
    refine lv_icmp_lt (tgt := 16) (pc := 9) hx hb dX11_planAt_9 rfl (fun c2 => ?_) (fun c2 => ?_)
    · exact hbad.elim (fun q => absurd q b1_) (fun q => absurd c2 (Int32.not_lt.mpr q))
    · refine lv_null (pc := 12) hx hb dX11_planAt_12 ?_
      refine lv_goto (tgt := 22) (pc := 13) hx hb dX11_planAt_13 rfl ?_
      exact e_q X hQ hr (Or.inl ⟨_, rfl⟩) hW (u := [(h0, .inr (11, [.ref a0, .ref a1, .ref a2, .ref a3, .ref a4, .ref a5, .ref a6, .ref a7, .ref a8, .ref a9, .ref a10, .int (nI nv), .int (nI np), .int cc])), (a2, .inl (g.2.1 5, 12, .inr (.inr (.inr (.inr fB)))))]) none rfl [0, 1] rfl rfl (⟨rfl, rfl⟩) ⟨Nat.le_of_ble_eq_true rfl, Nat.le_of_ble_eq_true rfl⟩ dX11_planAt_22

def F_X11_isHour (h : Int32) : Int32 := if h < 1 then ((0 : Int32)) else (if 24 < h then ((0 : Int32)) else ((1 : Int32)))
set_option maxHeartbeats 4000000 in
set_option maxRecDepth 100000 in
theorem K_X11_isHour (l : Launch) (g : GG) (h : Int32)  : MetI l g yX11_isHour cX11_isHour 1 (some .boolean) 0 0 0 [.int h] [] (fun r u => r = (F_X11_isHour h) ∧ u = []) := by
  refine MetI.of (own := RX11) rfl (by decide) (Nat.le_of_ble_eq_true rfl) ?_
  intro p e s m below meth c A ls args Q hQ X hr hin hW hl
  have hx := X.1
  have hb := X.2.1
  have hl : lv_has ls 1 [(0, .int h)] := hl
  refine lv_iload_n (pc := 0) hx hb dX11_isHour_0 rfl (lv_at hl 0 rfl) ?_
  refine lv_iconst (v := 1) (pc := 1) hx hb dX11_isHour_1 (by decide) ?_
  refine lv_icmp_lt (tgt := 15) (pc := 2) hx hb dX11_isHour_2 rfl (fun c1 => ?_) (fun c1 => ?_)
  · refine lv_iconst (v := 0) (pc := 15) hx hb dX11_isHour_15 (by decide) ?_
    have hF : F_X11_isHour h = (0 : Int32) := show F_X11_isHour h = (0 : Int32) from by rw [F_X11_isHour, if_pos c1]
    exact e_z (u := []) X hQ hr (hW) rfl [] rfl rfl (⟨hF.symm, rfl⟩) ⟨Nat.le_of_ble_eq_true rfl, Nat.le_of_ble_eq_true rfl⟩ dX11_isHour_16
  · refine lv_iload_n (pc := 5) hx hb dX11_isHour_5 rfl (lv_at hl 0 rfl) ?_
    refine lv_bipush (v := 24) (pc := 6) hx hb dX11_isHour_6 (by decide) ?_
    refine lv_icmp_gt (tgt := 15) (pc := 8) hx hb dX11_isHour_8 rfl (fun c4 => ?_) (fun c4 => ?_)
    · refine lv_iconst (v := 0) (pc := 15) hx hb dX11_isHour_15 (by decide) ?_
      have hF : F_X11_isHour h = (0 : Int32) := show F_X11_isHour h = (0 : Int32) from by rw [F_X11_isHour, if_neg c1, if_pos c4]
      exact e_z (u := []) X hQ hr (hW) rfl [] rfl rfl (⟨hF.symm, rfl⟩) ⟨Nat.le_of_ble_eq_true rfl, Nat.le_of_ble_eq_true rfl⟩ dX11_isHour_16
    · refine lv_iconst (v := 1) (pc := 11) hx hb dX11_isHour_11 (by decide) ?_
      refine lv_goto (tgt := 16) (pc := 12) hx hb dX11_isHour_12 rfl ?_
      have hF : F_X11_isHour h = (1 : Int32) := show F_X11_isHour h = (1 : Int32) from by rw [F_X11_isHour, if_neg c1, if_neg c4]
      exact e_z (u := []) X hQ hr (hW) rfl [] rfl rfl (⟨hF.symm, rfl⟩) ⟨Nat.le_of_ble_eq_true rfl, Nat.le_of_ble_eq_true rfl⟩ dX11_isHour_16

def F_X11_isHourOrFirst (h : Int32) : Int32 := if h < 0 then ((0 : Int32)) else (if 24 < h then ((0 : Int32)) else ((1 : Int32)))
set_option maxHeartbeats 4000000 in
set_option maxRecDepth 100000 in
theorem K_X11_isHourOrFirst (l : Launch) (g : GG) (h : Int32)  : MetI l g yX11_isHourOrFirst cX11_isHourOrFirst 1 (some .boolean) 0 0 0 [.int h] [] (fun r u => r = (F_X11_isHourOrFirst h) ∧ u = []) := by
  refine MetI.of (own := RX11) rfl (by decide) (Nat.le_of_ble_eq_true rfl) ?_
  intro p e s m below meth c A ls args Q hQ X hr hin hW hl
  have hx := X.1
  have hb := X.2.1
  have hl : lv_has ls 1 [(0, .int h)] := hl
  refine lv_iload_n (pc := 0) hx hb dX11_isHourOrFirst_0 rfl (lv_at hl 0 rfl) ?_
  refine lv_if_lt (tgt := 14) (pc := 1) hx hb dX11_isHourOrFirst_1 rfl (fun c1 => ?_) (fun c1 => ?_)
  · refine lv_iconst (v := 0) (pc := 14) hx hb dX11_isHourOrFirst_14 (by decide) ?_
    have hF : F_X11_isHourOrFirst h = (0 : Int32) := show F_X11_isHourOrFirst h = (0 : Int32) from by rw [F_X11_isHourOrFirst, if_pos c1]
    exact e_z (u := []) X hQ hr (hW) rfl [] rfl rfl (⟨hF.symm, rfl⟩) ⟨Nat.le_of_ble_eq_true rfl, Nat.le_of_ble_eq_true rfl⟩ dX11_isHourOrFirst_15
  · refine lv_iload_n (pc := 4) hx hb dX11_isHourOrFirst_4 rfl (lv_at hl 0 rfl) ?_
    refine lv_bipush (v := 24) (pc := 5) hx hb dX11_isHourOrFirst_5 (by decide) ?_
    refine lv_icmp_gt (tgt := 14) (pc := 7) hx hb dX11_isHourOrFirst_7 rfl (fun c4 => ?_) (fun c4 => ?_)
    · refine lv_iconst (v := 0) (pc := 14) hx hb dX11_isHourOrFirst_14 (by decide) ?_
      have hF : F_X11_isHourOrFirst h = (0 : Int32) := show F_X11_isHourOrFirst h = (0 : Int32) from by rw [F_X11_isHourOrFirst, if_neg c1, if_pos c4]
      exact e_z (u := []) X hQ hr (hW) rfl [] rfl rfl (⟨hF.symm, rfl⟩) ⟨Nat.le_of_ble_eq_true rfl, Nat.le_of_ble_eq_true rfl⟩ dX11_isHourOrFirst_15
    · refine lv_iconst (v := 1) (pc := 10) hx hb dX11_isHourOrFirst_10 (by decide) ?_
      refine lv_goto (tgt := 15) (pc := 11) hx hb dX11_isHourOrFirst_11 rfl ?_
      have hF : F_X11_isHourOrFirst h = (1 : Int32) := show F_X11_isHourOrFirst h = (1 : Int32) from by rw [F_X11_isHourOrFirst, if_neg c1, if_neg c4]
      exact e_z (u := []) X hQ hr (hW) rfl [] rfl rfl (⟨hF.symm, rfl⟩) ⟨Nat.le_of_ble_eq_true rfl, Nat.le_of_ble_eq_true rfl⟩ dX11_isHourOrFirst_15

def F_X11_isNews (x : Int32) : Int32 := if x < 0 then ((0 : Int32)) else (if 4 ≤ x then ((0 : Int32)) else ((1 : Int32)))
set_option maxHeartbeats 4000000 in
set_option maxRecDepth 100000 in
theorem K_X11_isNews (l : Launch) (g : GG) (x : Int32)  : MetI l g yX11_isNews cX11_isNews 1 (some .boolean) 0 0 0 [.int x] [] (fun r u => r = (F_X11_isNews x) ∧ u = []) := by
  refine MetI.of (own := RX11) rfl (by decide) (Nat.le_of_ble_eq_true rfl) ?_
  intro p e s m below meth c A ls args Q hQ X hr hin hW hl
  have hx := X.1
  have hb := X.2.1
  have hl : lv_has ls 1 [(0, .int x)] := hl
  refine lv_iload_n (pc := 0) hx hb dX11_isNews_0 rfl (lv_at hl 0 rfl) ?_
  refine lv_if_lt (tgt := 13) (pc := 1) hx hb dX11_isNews_1 rfl (fun c1 => ?_) (fun c1 => ?_)
  · refine lv_iconst (v := 0) (pc := 13) hx hb dX11_isNews_13 (by decide) ?_
    have hF : F_X11_isNews x = (0 : Int32) := show F_X11_isNews x = (0 : Int32) from by rw [F_X11_isNews, if_pos c1]
    exact e_z (u := []) X hQ hr (hW) rfl [] rfl rfl (⟨hF.symm, rfl⟩) ⟨Nat.le_of_ble_eq_true rfl, Nat.le_of_ble_eq_true rfl⟩ dX11_isNews_14
  · refine lv_iload_n (pc := 4) hx hb dX11_isNews_4 rfl (lv_at hl 0 rfl) ?_
    refine lv_iconst (v := 4) (pc := 5) hx hb dX11_isNews_5 (by decide) ?_
    refine lv_icmp_ge (tgt := 13) (pc := 6) hx hb dX11_isNews_6 rfl (fun c4 => ?_) (fun c4 => ?_)
    · refine lv_iconst (v := 0) (pc := 13) hx hb dX11_isNews_13 (by decide) ?_
      have hF : F_X11_isNews x = (0 : Int32) := show F_X11_isNews x = (0 : Int32) from by rw [F_X11_isNews, if_neg c1, if_pos c4]
      exact e_z (u := []) X hQ hr (hW) rfl [] rfl rfl (⟨hF.symm, rfl⟩) ⟨Nat.le_of_ble_eq_true rfl, Nat.le_of_ble_eq_true rfl⟩ dX11_isNews_14
    · refine lv_iconst (v := 1) (pc := 9) hx hb dX11_isNews_9 (by decide) ?_
      refine lv_goto (tgt := 14) (pc := 10) hx hb dX11_isNews_10 rfl ?_
      have hF : F_X11_isNews x = (1 : Int32) := show F_X11_isNews x = (1 : Int32) from by rw [F_X11_isNews, if_neg c1, if_neg c4]
      exact e_z (u := []) X hQ hr (hW) rfl [] rfl rfl (⟨hF.symm, rfl⟩) ⟨Nat.le_of_ble_eq_true rfl, Nat.le_of_ble_eq_true rfl⟩ dX11_isNews_14

theorem hl_at {x : Int32} {n : Nat} (hn : n < 2 ^ 31) (h : ¬ F_X10_hasLine (nI n) x = 0) : x = nI (tN x) ∧ tN x < n := by
  unfold F_X10_hasLine at h
  by_cases h1 : x < 0
  · rw [if_pos h1] at h; exact absurd rfl h
  · rw [if_neg h1] at h
    by_cases h2 : nI n ≤ x
    · rw [if_pos h2] at h; exact absurd rfl h
    · exact tN_in hn (Int32.not_lt.mp h1) (Int32.not_le.mp h2)
theorem hp_at {x : Int32} {n : Nat} (hn : n < 2 ^ 31) (h : ¬ F_X10_hasPerson (nI n) x = 0) : x = nI (tN x) ∧ tN x < n := by
  unfold F_X10_hasPerson at h
  by_cases h1 : x < 0
  · rw [if_pos h1] at h; exact absurd rfl h
  · rw [if_neg h1] at h
    by_cases h2 : nI n ≤ x
    · rw [if_pos h2] at h; exact absurd rfl h
    · exact tN_in hn (Int32.not_lt.mp h1) (Int32.not_le.mp h2)
theorem hc_at {x y : Int32} {n : Nat} (hn : n < 2 ^ 31) (h : ¬ F_X10_hasCouple (nI n) x y = 0) : (x = nI (tN x) ∧ tN x < n) ∧ (y = nI (tN y) ∧ tN y < n) ∧ ¬ x = y := by
  unfold F_X10_hasCouple at h
  by_cases h1 : F_X10_hasPerson (nI n) x = 0
  · rw [if_pos h1] at h; exact absurd rfl h
  · rw [if_neg h1] at h
    by_cases h2 : F_X10_hasPerson (nI n) y = 0
    · rw [if_pos h2] at h; exact absurd rfl h
    · rw [if_neg h2] at h
      by_cases h3 : x = y
      · rw [if_pos h3] at h; exact absurd rfl h
      · exact ⟨hp_at hn h1, hp_at hn h2, h3⟩
theorem bn_at {x : Int32} {lo hi : Nat} (hh : lo < 2 ^ 30 ∧ hi < 2 ^ 30) (h0 : nI lo ≤ x) (h1 : x ≤ nI hi) : x = nI (tN x) ∧ lo ≤ tN x ∧ tN x ≤ hi := by
  by_cases hl : lo < 2 ^ 31
  · have h2 : (0 : Int32) ≤ x := Int32.le_trans (nI_ge0 hl) h0
    have h3 : x < nI (hi + 1) := Int32.lt_of_le_of_lt h1 (nI_lt (by omega) (by omega))
    obtain ⟨e, q⟩ := tN_in (n := hi + 1) (by omega) h2 h3
    rw [e] at h0
    exact ⟨e, (nI_leI hl (by omega)).mp h0, by omega⟩
  · exact absurd hl (by omega)
theorem hr_at {x : Int32} (h : ¬ F_X11_isHour x = 0) : x = nI (tN x) ∧ 1 ≤ tN x ∧ tN x ≤ 24 := by
  unfold F_X11_isHour at h
  by_cases h1 : x < 1
  · rw [if_pos h1] at h; exact absurd rfl h
  · rw [if_neg h1] at h
    by_cases h2 : 24 < x
    · rw [if_pos h2] at h; exact absurd rfl h
    · exact bn_at (lo := 1) (hi := 24) (by omega) (Int32.not_lt.mp h1) (Int32.not_lt.mp h2)
theorem hn_at {x : Int32} (h : ¬ F_X11_isNews x = 0) : x = nI (tN x) ∧ tN x < 4 := by
  unfold F_X11_isNews at h
  by_cases h1 : x < 0
  · rw [if_pos h1] at h; exact absurd rfl h
  · rw [if_neg h1] at h
    by_cases h2 : 4 ≤ x
    · rw [if_pos h2] at h; exact absurd rfl h
    · exact tN_in (n := 4) (by omega) (Int32.not_lt.mp h1) (Int32.not_le.mp h2)
theorem tab_out4 {x : Int32} (h0 : ¬ x = 0) (h1 : ¬ x = 1) (h2 : ¬ x = 2) (h3 : ¬ x = 3) : x.toInt < 0 ∨ 3 < x.toInt := by
  by_cases a : x.toInt < 0
  · exact Or.inl a
  · by_cases b : (3 : Int) < x.toInt
    · exact Or.inr b
    · exfalso
      have : x.toInt = 0 ∨ x.toInt = 1 ∨ x.toInt = 2 ∨ x.toInt = 3 := by omega
      rcases this with h | h | h | h
      · exact h0 (Int32.toInt_inj.mp (h.trans (by decide)))
      · exact h1 (Int32.toInt_inj.mp (h.trans (by decide)))
      · exact h2 (Int32.toInt_inj.mp (h.trans (by decide)))
      · exact h3 (Int32.toInt_inj.mp (h.trans (by decide)))

def F_X11_told0  : Int32 := (-1 : Int32)
set_option maxHeartbeats 4000000 in
set_option maxRecDepth 100000 in
theorem K_X11_told0 (l : Launch) (g : GG) (h0 : Nat) (a0 : Nat) (a1 : Nat) (a2 : Nat) (a3 : Nat) (a4 : Nat) (a5 : Nat) (a6 : Nat) (a7 : Nat) (a8 : Nat) (a9 : Nat) (a10 : Nat) (nv : Nat) (np : Nat) (cc : Int32) (fA : Nat → Option Nat) (x : Int32) (y : Int32) (hbad : x < 0 ∨ nI nv ≤ x) : MetI l g yX11_told cX11_told 5 (some .int) 1 0 0 [.ref h0, .int x, .int y] [(h0, .inr (11, [.ref a0, .ref a1, .ref a2, .ref a3, .ref a4, .ref a5, .ref a6, .ref a7, .ref a8, .ref a9, .ref a10, .int (nI nv), .int (nI np), .int cc])), (a1, .inl (g.2.1 4, 10, .inr (.inr (.inr (.inr fA)))))] (fun r u => r = F_X11_told0 ∧ u = [(h0, .inr (11, [.ref a0, .ref a1, .ref a2, .ref a3, .ref a4, .ref a5, .ref a6, .ref a7, .ref a8, .ref a9, .ref a10, .int (nI nv), .int (nI np), .int cc])), (a1, .inl (g.2.1 4, 10, .inr (.inr (.inr (.inr fA)))))]) := by
  refine MetI.of (own := RX11) rfl (by decide) (Nat.le_of_ble_eq_true rfl) ?_
  intro p e s m below meth c A ls args Q hQ X hr hin hW hl
  have hx := X.1
  have hb := X.2.1
  have hl : lv_has ls 5 [(0, .ref h0), (1, .int x), (2, .int y)] := hl
  refine lv_aload_n (pc := 0) hx hb dX11_told_0 rfl (lv_at hl 0 rfl) ?_
  refine lv_iload_n (pc := 1) hx hb dX11_told_1 rfl (lv_at hl 1 rfl) ?_
  refine c_Vq (pc := 2) (As := [.int x]) (rest := []) (wr := []) X hW 0 ciX11 rfl (C_X11_valleyAt0 l g h0 a0 a1 a2 a3 a4 a5 a6 a7 a8 a9 a10 nv np cc fA x hbad) vX11_101 [0, 1] [] rfl rfl rfl rfl rfl rfl hl.1 rfl (Nat.le_of_ble_eq_true rfl) ⟨Nat.le_of_ble_eq_true rfl, Nat.le_of_ble_eq_true rfl⟩ ⟨Nat.le_of_ble_eq_true rfl, Nat.le_of_ble_eq_true rfl⟩ dX11_told_2 (fun r1 u9 H locs hq hW => ?_)
  obtain ⟨rfl, rfl⟩ := hq
  have hW : WD g A s _ _ [(h0, .inr (11, [.ref a0, .ref a1, .ref a2, .ref a3, .ref a4, .ref a5, .ref a6, .ref a7, .ref a8, .ref a9, .ref a10, .int (nI nv), .int (nI np), .int cc])), (a1, .inl (g.2.1 4, 10, .inr (.inr (.inr (.inr fA)))))] := hW
  refine lv_astore_nN (lv' := [(3, .null), (0, .ref h0), (1, .int x), (2, .int y)]) (pc := 5) hx hb dX11_told_5 rfl hl (by decide) rfl (fun ls hl => ?_)
  refine lv_aload_nN (pc := 6) hx hb dX11_told_6 rfl (lv_at hl 0 rfl) ?_
  refine lv_ifnullN (tgt := 14) (pc := 7) hx hb dX11_told_7 rfl ?_
  refine lv_iconst (v := (-1)) (pc := 14) hx hb dX11_told_14 (by decide) ?_
  have hF : F_X11_told0 = (-1 : Int32) := show F_X11_told0 = (-1 : Int32) from rfl
  exact e_i (u := [(h0, .inr (11, [.ref a0, .ref a1, .ref a2, .ref a3, .ref a4, .ref a5, .ref a6, .ref a7, .ref a8, .ref a9, .ref a10, .int (nI nv), .int (nI np), .int cc])), (a1, .inl (g.2.1 4, 10, .inr (.inr (.inr (.inr fA)))))]) X hQ hr (hW) [0, 1] rfl rfl (⟨hF.symm, rfl⟩) ⟨Nat.le_of_ble_eq_true rfl, Nat.le_of_ble_eq_true rfl⟩ dX11_told_15

def F_X11_told1 (pe : Int32) (lc : Int32) (de : Int32) (kn : Nat → Int32) (mu : Nat → Int32) (mn : Nat → Int32) (y : Int32) : Int32 := if 0 ≤ y then (if 4 ≤ y then (if (y / 4) = 1 then (kn (tN (tmod y))) else (if (y / 4) = 2 then (mu (tN (tmod y))) else (if (y / 4) = 3 then (mn (tN (tmod y))) else ((-1 : Int32))))) else (if y = 0 then (pe) else (if y = 1 then (lc) else (if y = 2 then (de) else ((-1 : Int32)))))) else ((-1 : Int32))
set_option maxHeartbeats 4000000 in
set_option maxRecDepth 100000 in
theorem K_X11_told1 (l : Launch) (g : GG) (h0 : Nat) (a0 : Nat) (a1 : Nat) (a2 : Nat) (a3 : Nat) (a4 : Nat) (a5 : Nat) (a6 : Nat) (a7 : Nat) (a8 : Nat) (a9 : Nat) (a10 : Nat) (nv : Nat) (np : Nat) (cc : Int32) (fA : Nat → Option Nat) (i : Nat) (v : Nat) (v3 : Nat) (v4 : Nat) (v5 : Nat) (v6 : Nat) (v7 : Nat) (v8 : Nat) (v9 : Nat) (v10 : Nat) (v11 : Nat) (v12 : Nat) (v13 : Nat) (v15 : Nat) (pe : Int32) (lc : Int32) (de : Int32) (gl : Int32) (kn : Nat → Int32) (mu : Nat → Int32) (mn : Nat → Int32) (y : Int32) (hi : i < nv) (hn : nv ≤ 10) (hA : fA i = some v) : MetI l g yX11_told cX11_told 5 (some .int) 1 0 0 [.ref h0, .int (nI i), .int y] [(h0, .inr (11, [.ref a0, .ref a1, .ref a2, .ref a3, .ref a4, .ref a5, .ref a6, .ref a7, .ref a8, .ref a9, .ref a10, .int (nI nv), .int (nI np), .int cc])), (a1, .inl (g.2.1 4, 10, .inr (.inr (.inr (.inr fA))))), (v, .inr (10, [.int pe, .int lc, .int de, .ref v3, .ref v4, .ref v5, .ref v6, .ref v7, .ref v8, .ref v9, .ref v10, .ref v11, .ref v12, .ref v13, .int gl, .ref v15])), (v3, .inl (g.2.1 1, 4, .inl kn)), (v4, .inl (g.2.1 1, 4, .inl mu)), (v5, .inl (g.2.1 1, 4, .inl mn))] (fun r u => r = (F_X11_told1 pe lc de kn mu mn y) ∧ u = [(h0, .inr (11, [.ref a0, .ref a1, .ref a2, .ref a3, .ref a4, .ref a5, .ref a6, .ref a7, .ref a8, .ref a9, .ref a10, .int (nI nv), .int (nI np), .int cc])), (a1, .inl (g.2.1 4, 10, .inr (.inr (.inr (.inr fA))))), (v, .inr (10, [.int pe, .int lc, .int de, .ref v3, .ref v4, .ref v5, .ref v6, .ref v7, .ref v8, .ref v9, .ref v10, .ref v11, .ref v12, .ref v13, .int gl, .ref v15])), (v3, .inl (g.2.1 1, 4, .inl kn)), (v4, .inl (g.2.1 1, 4, .inl mu)), (v5, .inl (g.2.1 1, 4, .inl mn))]) := by
  refine MetI.of (own := RX11) rfl (by decide) (Nat.le_of_ble_eq_true rfl) ?_
  intro p e s m below meth c A ls args Q hQ X hr hin hW hl
  have hx := X.1
  have hb := X.2.1
  have hl : lv_has ls 5 [(0, .ref h0), (1, .int (nI i)), (2, .int y)] := hl
  refine lv_aload_n (pc := 0) hx hb dX11_told_0 rfl (lv_at hl 0 rfl) ?_
  refine lv_iload_n (pc := 1) hx hb dX11_told_1 rfl (lv_at hl 1 rfl) ?_
  refine c_Vq (pc := 2) (As := [.int (nI i)]) (rest := []) (wr := [(v, .inr (10, [.int pe, .int lc, .int de, .ref v3, .ref v4, .ref v5, .ref v6, .ref v7, .ref v8, .ref v9, .ref v10, .ref v11, .ref v12, .ref v13, .int gl, .ref v15])), (v3, .inl (g.2.1 1, 4, .inl kn)), (v4, .inl (g.2.1 1, 4, .inl mu)), (v5, .inl (g.2.1 1, 4, .inl mn))]) X hW 0 ciX11 rfl (C_X11_valleyAt1 l g h0 a0 a1 a2 a3 a4 a5 a6 a7 a8 a9 a10 nv np cc fA i v (by omega) (by omega) hA) vX11_101 [0, 1] [2, 3, 4, 5] rfl rfl rfl rfl rfl rfl hl.1 rfl (Nat.le_of_ble_eq_true rfl) ⟨Nat.le_of_ble_eq_true rfl, Nat.le_of_ble_eq_true rfl⟩ ⟨Nat.le_of_ble_eq_true rfl, Nat.le_of_ble_eq_true rfl⟩ dX11_told_2 (fun r1 u9 H locs hq hW => ?_)
  obtain ⟨rfl, rfl⟩ := hq
  have hW : WD g A s _ _ [(v, .inr (10, [.int pe, .int lc, .int de, .ref v3, .ref v4, .ref v5, .ref v6, .ref v7, .ref v8, .ref v9, .ref v10, .ref v11, .ref v12, .ref v13, .int gl, .ref v15])), (v3, .inl (g.2.1 1, 4, .inl kn)), (v4, .inl (g.2.1 1, 4, .inl mu)), (v5, .inl (g.2.1 1, 4, .inl mn)), (h0, .inr (11, [.ref a0, .ref a1, .ref a2, .ref a3, .ref a4, .ref a5, .ref a6, .ref a7, .ref a8, .ref a9, .ref a10, .int (nI nv), .int (nI np), .int cc])), (a1, .inl (g.2.1 4, 10, .inr (.inr (.inr (.inr fA)))))] := hW
  refine lv_astore_n (lv' := [(3, .ref v), (0, .ref h0), (1, .int (nI i)), (2, .int y)]) (pc := 5) hx hb dX11_told_5 rfl hl (by decide) rfl (fun ls hl => ?_)
  refine lv_aload_n (pc := 6) hx hb dX11_told_6 rfl (lv_at hl 0 rfl) ?_
  refine lv_ifnull (pc := 7) hx hb dX11_told_7 ?_
  refine lv_iload_n (pc := 10) hx hb dX11_told_10 rfl (lv_at hl 3 rfl) ?_
  refine lv_if_ge (tgt := 16) (pc := 11) hx hb dX11_told_11 rfl (fun c2 => ?_) (fun c2 => ?_)
  · have hge := c2
    refine lv_iload_n (pc := 16) hx hb dX11_told_16 rfl (lv_at hl 3 rfl) ?_
    refine lv_iconst (v := 4) (pc := 17) hx hb dX11_told_17 (by decide) ?_
    refine lv_icmp_ge (tgt := 58) (pc := 18) hx hb dX11_told_18 rfl (fun c4 => ?_) (fun c4 => ?_)
    · refine lv_iload_n (pc := 58) hx hb dX11_told_58 rfl (lv_at hl 3 rfl) ?_
      refine lv_iconst (v := 4) (pc := 59) hx hb dX11_told_59 (by decide) ?_
      refine lv_irem (pc := 60) hx hb dX11_told_60 (by decide) ?_
      refine lv_topi (fun v6 ev6 => ?_)
      obtain rfl : v6 = tmod y := ev6.trans (rfl)
      refine lv_istore (lv' := [(4, .int (tmod y)), (3, .ref v), (0, .ref h0), (1, .int (nI i)), (2, .int y)]) (pc := 61) hx hb dX11_told_61 hl (by decide) rfl (fun ls hl => ?_)
      refine lv_iload_n (pc := 63) hx hb dX11_told_63 rfl (lv_at hl 4 rfl) ?_
      refine lv_iconst (v := 4) (pc := 64) hx hb dX11_told_64 (by decide) ?_
      refine lv_idiv (pc := 65) hx hb dX11_told_65 (by decide) ?_
      refine lv_topi (fun v7 ev7 => ?_)
      obtain rfl : v7 = (y / 4) := ev7.trans (rfl)
      by_cases c8 : (y / 4) = 1
      · rw [c8]
        refine lv_tableIn (pc := 66) (off := 26) (tgt := 92) hx hb dX11_told_66 (by decide) (by decide) rfl rfl ?_
        refine lv_aload_n (pc := 92) hx hb dX11_told_92 rfl (lv_at hl 1 rfl) ?_
        refine r_getN X hW 0 ciX10 3 rfl (by decide) m_293 rfl rfl dX11_told_93 ?_
        refine lv_iload (pc := 96) hx hb dX11_told_96 (lv_at hl 0 rfl) ?_
        have htm := tmod_in hge
        rw [htm.1]
        have htm2 := htm.2
        refine r_iald X hW 1 rfl (vp_in_nI (by omega) (by decide)) dX11_told_98 ?_
        refine lv_topi (fun v9 ev9 => ?_)
        obtain rfl : v9 = kn (tN (tmod y)) := ev9.trans (by rw [nI_clamp (by omega)])
        have hF : F_X11_told1 pe lc de kn mu mn y = kn (tN (tmod y)) := show F_X11_told1 pe lc de kn mu mn y = kn (tN (tmod y)) from by rw [F_X11_told1, if_pos c2, if_pos c4, if_pos c8]
        exact e_i (u := [(h0, .inr (11, [.ref a0, .ref a1, .ref a2, .ref a3, .ref a4, .ref a5, .ref a6, .ref a7, .ref a8, .ref a9, .ref a10, .int (nI nv), .int (nI np), .int cc])), (a1, .inl (g.2.1 4, 10, .inr (.inr (.inr (.inr fA))))), (v, .inr (10, [.int pe, .int lc, .int de, .ref v3, .ref v4, .ref v5, .ref v6, .ref v7, .ref v8, .ref v9, .ref v10, .ref v11, .ref v12, .ref v13, .int gl, .ref v15])), (v3, .inl (g.2.1 1, 4, .inl kn)), (v4, .inl (g.2.1 1, 4, .inl mu)), (v5, .inl (g.2.1 1, 4, .inl mn))]) X hQ hr (hW) [4, 5, 0, 1, 2, 3] rfl rfl (⟨hF.symm, rfl⟩) ⟨Nat.le_of_ble_eq_true rfl, Nat.le_of_ble_eq_true rfl⟩ dX11_told_99
      · by_cases c10 : (y / 4) = 2
        · rw [c10]
          refine lv_tableIn (pc := 66) (off := 34) (tgt := 100) hx hb dX11_told_66 (by decide) (by decide) rfl rfl ?_
          refine lv_aload_n (pc := 100) hx hb dX11_told_100 rfl (lv_at hl 1 rfl) ?_
          refine r_getN X hW 0 ciX10 4 rfl (by decide) m_298 rfl rfl dX11_told_101 ?_
          refine lv_iload (pc := 104) hx hb dX11_told_104 (lv_at hl 0 rfl) ?_
          have htm := tmod_in hge
          rw [htm.1]
          have htm2 := htm.2
          refine r_iald X hW 2 rfl (vp_in_nI (by omega) (by decide)) dX11_told_106 ?_
          refine lv_topi (fun v11 ev11 => ?_)
          obtain rfl : v11 = mu (tN (tmod y)) := ev11.trans (by rw [nI_clamp (by omega)])
          have hF : F_X11_told1 pe lc de kn mu mn y = mu (tN (tmod y)) := show F_X11_told1 pe lc de kn mu mn y = mu (tN (tmod y)) from by rw [F_X11_told1, if_pos c2, if_pos c4, if_neg c8, if_pos c10]
          exact e_i (u := [(h0, .inr (11, [.ref a0, .ref a1, .ref a2, .ref a3, .ref a4, .ref a5, .ref a6, .ref a7, .ref a8, .ref a9, .ref a10, .int (nI nv), .int (nI np), .int cc])), (a1, .inl (g.2.1 4, 10, .inr (.inr (.inr (.inr fA))))), (v, .inr (10, [.int pe, .int lc, .int de, .ref v3, .ref v4, .ref v5, .ref v6, .ref v7, .ref v8, .ref v9, .ref v10, .ref v11, .ref v12, .ref v13, .int gl, .ref v15])), (v3, .inl (g.2.1 1, 4, .inl kn)), (v4, .inl (g.2.1 1, 4, .inl mu)), (v5, .inl (g.2.1 1, 4, .inl mn))]) X hQ hr (hW) [4, 5, 0, 1, 2, 3] rfl rfl (⟨hF.symm, rfl⟩) ⟨Nat.le_of_ble_eq_true rfl, Nat.le_of_ble_eq_true rfl⟩ dX11_told_107
        · by_cases c12 : (y / 4) = 3
          · rw [c12]
            refine lv_tableIn (pc := 66) (off := 42) (tgt := 108) hx hb dX11_told_66 (by decide) (by decide) rfl rfl ?_
            refine lv_aload_n (pc := 108) hx hb dX11_told_108 rfl (lv_at hl 1 rfl) ?_
            refine r_getN X hW 0 ciX10 5 rfl (by decide) m_302 rfl rfl dX11_told_109 ?_
            refine lv_iload (pc := 112) hx hb dX11_told_112 (lv_at hl 0 rfl) ?_
            have htm := tmod_in hge
            rw [htm.1]
            have htm2 := htm.2
            refine r_iald X hW 3 rfl (vp_in_nI (by omega) (by decide)) dX11_told_114 ?_
            refine lv_topi (fun v13 ev13 => ?_)
            obtain rfl : v13 = mn (tN (tmod y)) := ev13.trans (by rw [nI_clamp (by omega)])
            have hF : F_X11_told1 pe lc de kn mu mn y = mn (tN (tmod y)) := show F_X11_told1 pe lc de kn mu mn y = mn (tN (tmod y)) from by rw [F_X11_told1, if_pos c2, if_pos c4, if_neg c8, if_neg c10, if_pos c12]
            exact e_i (u := [(h0, .inr (11, [.ref a0, .ref a1, .ref a2, .ref a3, .ref a4, .ref a5, .ref a6, .ref a7, .ref a8, .ref a9, .ref a10, .int (nI nv), .int (nI np), .int cc])), (a1, .inl (g.2.1 4, 10, .inr (.inr (.inr (.inr fA))))), (v, .inr (10, [.int pe, .int lc, .int de, .ref v3, .ref v4, .ref v5, .ref v6, .ref v7, .ref v8, .ref v9, .ref v10, .ref v11, .ref v12, .ref v13, .int gl, .ref v15])), (v3, .inl (g.2.1 1, 4, .inl kn)), (v4, .inl (g.2.1 1, 4, .inl mu)), (v5, .inl (g.2.1 1, 4, .inl mn))]) X hQ hr (hW) [4, 5, 0, 1, 2, 3] rfl rfl (⟨hF.symm, rfl⟩) ⟨Nat.le_of_ble_eq_true rfl, Nat.le_of_ble_eq_true rfl⟩ dX11_told_115
          · refine lv_tableOut (pc := 66) (tgt := 116) hx hb dX11_told_66 (tab_out3 c8 c10 c12) rfl ?_
            refine lv_iconst (v := (-1)) (pc := 116) hx hb dX11_told_116 (by decide) ?_
            have hF : F_X11_told1 pe lc de kn mu mn y = (-1 : Int32) := show F_X11_told1 pe lc de kn mu mn y = (-1 : Int32) from by rw [F_X11_told1, if_pos c2, if_pos c4, if_neg c8, if_neg c10, if_neg c12]
            exact e_i (u := [(h0, .inr (11, [.ref a0, .ref a1, .ref a2, .ref a3, .ref a4, .ref a5, .ref a6, .ref a7, .ref a8, .ref a9, .ref a10, .int (nI nv), .int (nI np), .int cc])), (a1, .inl (g.2.1 4, 10, .inr (.inr (.inr (.inr fA))))), (v, .inr (10, [.int pe, .int lc, .int de, .ref v3, .ref v4, .ref v5, .ref v6, .ref v7, .ref v8, .ref v9, .ref v10, .ref v11, .ref v12, .ref v13, .int gl, .ref v15])), (v3, .inl (g.2.1 1, 4, .inl kn)), (v4, .inl (g.2.1 1, 4, .inl mu)), (v5, .inl (g.2.1 1, 4, .inl mn))]) X hQ hr (hW) [4, 5, 0, 1, 2, 3] rfl rfl (⟨hF.symm, rfl⟩) ⟨Nat.le_of_ble_eq_true rfl, Nat.le_of_ble_eq_true rfl⟩ dX11_told_117
    · refine lv_iload_n (pc := 21) hx hb dX11_told_21 rfl (lv_at hl 3 rfl) ?_
      refine lv_if_ne (tgt := 32) (pc := 22) hx hb dX11_told_22 rfl (fun c15 => ?_) (fun c15 => ?_)
      · refine lv_iload_n (pc := 32) hx hb dX11_told_32 rfl (lv_at hl 3 rfl) ?_
        refine lv_iconst (v := 1) (pc := 33) hx hb dX11_told_33 (by decide) ?_
        refine lv_icmp_ne (tgt := 44) (pc := 34) hx hb dX11_told_34 rfl (fun c17 => ?_) (fun c17 => ?_)
        · refine lv_iload_n (pc := 44) hx hb dX11_told_44 rfl (lv_at hl 3 rfl) ?_
          refine lv_iconst (v := 2) (pc := 45) hx hb dX11_told_45 (by decide) ?_
          refine lv_icmp_ne (tgt := 56) (pc := 46) hx hb dX11_told_46 rfl (fun c19 => ?_) (fun c19 => ?_)
          · refine lv_iconst (v := (-1)) (pc := 56) hx hb dX11_told_56 (by decide) ?_
            have hF : F_X11_told1 pe lc de kn mu mn y = (-1 : Int32) := show F_X11_told1 pe lc de kn mu mn y = (-1 : Int32) from by rw [F_X11_told1, if_pos c2, if_neg c4, if_neg c15, if_neg c17, if_neg c19]
            exact e_i (u := [(h0, .inr (11, [.ref a0, .ref a1, .ref a2, .ref a3, .ref a4, .ref a5, .ref a6, .ref a7, .ref a8, .ref a9, .ref a10, .int (nI nv), .int (nI np), .int cc])), (a1, .inl (g.2.1 4, 10, .inr (.inr (.inr (.inr fA))))), (v, .inr (10, [.int pe, .int lc, .int de, .ref v3, .ref v4, .ref v5, .ref v6, .ref v7, .ref v8, .ref v9, .ref v10, .ref v11, .ref v12, .ref v13, .int gl, .ref v15])), (v3, .inl (g.2.1 1, 4, .inl kn)), (v4, .inl (g.2.1 1, 4, .inl mu)), (v5, .inl (g.2.1 1, 4, .inl mn))]) X hQ hr (hW) [4, 5, 0, 1, 2, 3] rfl rfl (⟨hF.symm, rfl⟩) ⟨Nat.le_of_ble_eq_true rfl, Nat.le_of_ble_eq_true rfl⟩ dX11_told_57
          · refine lv_aload_n (pc := 49) hx hb dX11_told_49 rfl (lv_at hl 0 rfl) ?_
            refine r_getN X hW 0 ciX10 2 rfl (by decide) m_289 rfl rfl dX11_told_50 ?_
            refine lv_goto (tgt := 57) (pc := 53) hx hb dX11_told_53 rfl ?_
            have hF : F_X11_told1 pe lc de kn mu mn y = de := show F_X11_told1 pe lc de kn mu mn y = de from by rw [F_X11_told1, if_pos c2, if_neg c4, if_neg c15, if_neg c17, if_pos c19]
            exact e_i (u := [(h0, .inr (11, [.ref a0, .ref a1, .ref a2, .ref a3, .ref a4, .ref a5, .ref a6, .ref a7, .ref a8, .ref a9, .ref a10, .int (nI nv), .int (nI np), .int cc])), (a1, .inl (g.2.1 4, 10, .inr (.inr (.inr (.inr fA))))), (v, .inr (10, [.int pe, .int lc, .int de, .ref v3, .ref v4, .ref v5, .ref v6, .ref v7, .ref v8, .ref v9, .ref v10, .ref v11, .ref v12, .ref v13, .int gl, .ref v15])), (v3, .inl (g.2.1 1, 4, .inl kn)), (v4, .inl (g.2.1 1, 4, .inl mu)), (v5, .inl (g.2.1 1, 4, .inl mn))]) X hQ hr (hW) [4, 5, 0, 1, 2, 3] rfl rfl (⟨hF.symm, rfl⟩) ⟨Nat.le_of_ble_eq_true rfl, Nat.le_of_ble_eq_true rfl⟩ dX11_told_57
        · refine lv_aload_n (pc := 37) hx hb dX11_told_37 rfl (lv_at hl 0 rfl) ?_
          refine r_getN X hW 0 ciX10 1 rfl (by decide) m_284 rfl rfl dX11_told_38 ?_
          refine lv_goto (tgt := 57) (pc := 41) hx hb dX11_told_41 rfl ?_
          have hF : F_X11_told1 pe lc de kn mu mn y = lc := show F_X11_told1 pe lc de kn mu mn y = lc from by rw [F_X11_told1, if_pos c2, if_neg c4, if_neg c15, if_pos c17]
          exact e_i (u := [(h0, .inr (11, [.ref a0, .ref a1, .ref a2, .ref a3, .ref a4, .ref a5, .ref a6, .ref a7, .ref a8, .ref a9, .ref a10, .int (nI nv), .int (nI np), .int cc])), (a1, .inl (g.2.1 4, 10, .inr (.inr (.inr (.inr fA))))), (v, .inr (10, [.int pe, .int lc, .int de, .ref v3, .ref v4, .ref v5, .ref v6, .ref v7, .ref v8, .ref v9, .ref v10, .ref v11, .ref v12, .ref v13, .int gl, .ref v15])), (v3, .inl (g.2.1 1, 4, .inl kn)), (v4, .inl (g.2.1 1, 4, .inl mu)), (v5, .inl (g.2.1 1, 4, .inl mn))]) X hQ hr (hW) [4, 5, 0, 1, 2, 3] rfl rfl (⟨hF.symm, rfl⟩) ⟨Nat.le_of_ble_eq_true rfl, Nat.le_of_ble_eq_true rfl⟩ dX11_told_57
      · refine lv_aload_n (pc := 25) hx hb dX11_told_25 rfl (lv_at hl 0 rfl) ?_
        refine r_getN X hW 0 ciX10 0 rfl (by decide) m_276 rfl rfl dX11_told_26 ?_
        refine lv_goto (tgt := 57) (pc := 29) hx hb dX11_told_29 rfl ?_
        have hF : F_X11_told1 pe lc de kn mu mn y = pe := show F_X11_told1 pe lc de kn mu mn y = pe from by rw [F_X11_told1, if_pos c2, if_neg c4, if_pos c15]
        exact e_i (u := [(h0, .inr (11, [.ref a0, .ref a1, .ref a2, .ref a3, .ref a4, .ref a5, .ref a6, .ref a7, .ref a8, .ref a9, .ref a10, .int (nI nv), .int (nI np), .int cc])), (a1, .inl (g.2.1 4, 10, .inr (.inr (.inr (.inr fA))))), (v, .inr (10, [.int pe, .int lc, .int de, .ref v3, .ref v4, .ref v5, .ref v6, .ref v7, .ref v8, .ref v9, .ref v10, .ref v11, .ref v12, .ref v13, .int gl, .ref v15])), (v3, .inl (g.2.1 1, 4, .inl kn)), (v4, .inl (g.2.1 1, 4, .inl mu)), (v5, .inl (g.2.1 1, 4, .inl mn))]) X hQ hr (hW) [4, 5, 0, 1, 2, 3] rfl rfl (⟨hF.symm, rfl⟩) ⟨Nat.le_of_ble_eq_true rfl, Nat.le_of_ble_eq_true rfl⟩ dX11_told_57
  · refine lv_iconst (v := (-1)) (pc := 14) hx hb dX11_told_14 (by decide) ?_
    have hF : F_X11_told1 pe lc de kn mu mn y = (-1 : Int32) := show F_X11_told1 pe lc de kn mu mn y = (-1 : Int32) from by rw [F_X11_told1, if_neg c2]
    exact e_i (u := [(h0, .inr (11, [.ref a0, .ref a1, .ref a2, .ref a3, .ref a4, .ref a5, .ref a6, .ref a7, .ref a8, .ref a9, .ref a10, .int (nI nv), .int (nI np), .int cc])), (a1, .inl (g.2.1 4, 10, .inr (.inr (.inr (.inr fA))))), (v, .inr (10, [.int pe, .int lc, .int de, .ref v3, .ref v4, .ref v5, .ref v6, .ref v7, .ref v8, .ref v9, .ref v10, .ref v11, .ref v12, .ref v13, .int gl, .ref v15])), (v3, .inl (g.2.1 1, 4, .inl kn)), (v4, .inl (g.2.1 1, 4, .inl mu)), (v5, .inl (g.2.1 1, 4, .inl mn))]) X hQ hr (hW) [4, 5, 0, 1, 2, 3] rfl rfl (⟨hF.symm, rfl⟩) ⟨Nat.le_of_ble_eq_true rfl, Nat.le_of_ble_eq_true rfl⟩ dX11_told_15

def F_X11_down0  : Int32 := (0 : Int32)
set_option maxHeartbeats 4000000 in
set_option maxRecDepth 100000 in
theorem K_X11_down0 (l : Launch) (g : GG) (h0 : Nat) (a0 : Nat) (a1 : Nat) (a2 : Nat) (a3 : Nat) (a4 : Nat) (a5 : Nat) (a6 : Nat) (a7 : Nat) (a8 : Nat) (a9 : Nat) (a10 : Nat) (nv : Nat) (np : Nat) (cc : Int32) (fA : Nat → Option Nat) (x : Int32) (y : Int32) (z : Int32) (hbad : x < 0 ∨ nI nv ≤ x) : MetI l g yX11_down cX11_down 5 (some .boolean) 1 0 0 [.ref h0, .int x, .int y, .int z] [(h0, .inr (11, [.ref a0, .ref a1, .ref a2, .ref a3, .ref a4, .ref a5, .ref a6, .ref a7, .ref a8, .ref a9, .ref a10, .int (nI nv), .int (nI np), .int cc])), (a1, .inl (g.2.1 4, 10, .inr (.inr (.inr (.inr fA)))))] (fun r u => r = F_X11_down0 ∧ u = [(h0, .inr (11, [.ref a0, .ref a1, .ref a2, .ref a3, .ref a4, .ref a5, .ref a6, .ref a7, .ref a8, .ref a9, .ref a10, .int (nI nv), .int (nI np), .int cc])), (a1, .inl (g.2.1 4, 10, .inr (.inr (.inr (.inr fA)))))]) := by
  refine MetI.of (own := RX11) rfl (by decide) (Nat.le_of_ble_eq_true rfl) ?_
  intro p e s m below meth c A ls args Q hQ X hr hin hW hl
  have hx := X.1
  have hb := X.2.1
  have hl : lv_has ls 5 [(0, .ref h0), (1, .int x), (2, .int y), (3, .int z)] := hl
  refine lv_aload_n (pc := 0) hx hb dX11_down_0 rfl (lv_at hl 0 rfl) ?_
  refine lv_iload_n (pc := 1) hx hb dX11_down_1 rfl (lv_at hl 1 rfl) ?_
  refine c_Vq (pc := 2) (As := [.int x]) (rest := []) (wr := []) X hW 0 ciX11 rfl (C_X11_valleyAt0 l g h0 a0 a1 a2 a3 a4 a5 a6 a7 a8 a9 a10 nv np cc fA x hbad) vX11_101 [0, 1] [] rfl rfl rfl rfl rfl rfl hl.1 rfl (Nat.le_of_ble_eq_true rfl) ⟨Nat.le_of_ble_eq_true rfl, Nat.le_of_ble_eq_true rfl⟩ ⟨Nat.le_of_ble_eq_true rfl, Nat.le_of_ble_eq_true rfl⟩ dX11_down_2 (fun r1 u9 H locs hq hW => ?_)
  obtain ⟨rfl, rfl⟩ := hq
  have hW : WD g A s _ _ [(h0, .inr (11, [.ref a0, .ref a1, .ref a2, .ref a3, .ref a4, .ref a5, .ref a6, .ref a7, .ref a8, .ref a9, .ref a10, .int (nI nv), .int (nI np), .int cc])), (a1, .inl (g.2.1 4, 10, .inr (.inr (.inr (.inr fA)))))] := hW
  refine lv_astoreN (lv' := [(4, .null), (0, .ref h0), (1, .int x), (2, .int y), (3, .int z)]) (pc := 5) hx hb dX11_down_5 hl (by decide) rfl (fun ls hl => ?_)
  refine lv_aloadN (pc := 7) hx hb dX11_down_7 (lv_at hl 0 rfl) ?_
  refine lv_ifnullN (tgt := 33) (pc := 9) hx hb dX11_down_9 rfl ?_
  refine lv_iconst (v := 0) (pc := 33) hx hb dX11_down_33 (by decide) ?_
  have hF : F_X11_down0 = (0 : Int32) := show F_X11_down0 = (0 : Int32) from rfl
  exact e_z (u := [(h0, .inr (11, [.ref a0, .ref a1, .ref a2, .ref a3, .ref a4, .ref a5, .ref a6, .ref a7, .ref a8, .ref a9, .ref a10, .int (nI nv), .int (nI np), .int cc])), (a1, .inl (g.2.1 4, 10, .inr (.inr (.inr (.inr fA)))))]) X hQ hr (hW) rfl [0, 1] rfl rfl (⟨hF.symm, rfl⟩) ⟨Nat.le_of_ble_eq_true rfl, Nat.le_of_ble_eq_true rfl⟩ dX11_down_34

def F_X11_down1 (lc : Nat) (L : Nat → Int32) (K : Nat → Int32) (y : Int32) (z : Int32) : Int32 × (Nat → Int32) × (Nat → Int32) := if F_X10_hasLine (nI lc) y = 0 then (((0 : Int32), L, K)) else (if z = (-1) then (((1 : Int32), ((F_X10_setDown lc L (tN y) z).1), ((F_X10_setDown lc L (tN y) z).2))) else (if F_X11_isHour z = 0 then (((0 : Int32), L, K)) else (((1 : Int32), ((F_X10_setDown lc L (tN y) z).1), ((F_X10_setDown lc L (tN y) z).2)))))
set_option maxHeartbeats 4000000 in
set_option maxRecDepth 100000 in
theorem K_X11_down1 (l : Launch) (g : GG) (h0 : Nat) (a0 : Nat) (a1 : Nat) (a2 : Nat) (a3 : Nat) (a4 : Nat) (a5 : Nat) (a6 : Nat) (a7 : Nat) (a8 : Nat) (a9 : Nat) (a10 : Nat) (nv : Nat) (np : Nat) (cc : Int32) (fA : Nat → Option Nat) (i : Nat) (v : Nat) (v3 : Nat) (v4 : Nat) (v5 : Nat) (v6 : Nat) (v7 : Nat) (v8 : Nat) (v9 : Nat) (v10 : Nat) (v11 : Nat) (v12 : Nat) (v13 : Nat) (v15 : Nat) (pe : Int32) (lc : Nat) (de : Int32) (gl : Int32) (L : Nat → Int32) (K : Nat → Int32) (pp : Nat) (y : Int32) (z : Int32) (hi : i < nv) (hn : nv ≤ 10) (hA : fA i = some v) (hlc : lc ≤ 12) (hpp : pp ≤ 7) (hL : endsIn L lc pp) : MetI l g yX11_down cX11_down 5 (some .boolean) 5 0 0 [.ref h0, .int (nI i), .int y, .int z] [(h0, .inr (11, [.ref a0, .ref a1, .ref a2, .ref a3, .ref a4, .ref a5, .ref a6, .ref a7, .ref a8, .ref a9, .ref a10, .int (nI nv), .int (nI np), .int cc])), (a1, .inl (g.2.1 4, 10, .inr (.inr (.inr (.inr fA))))), (v, .inr (10, [.int pe, .int (nI lc), .int de, .ref v3, .ref v4, .ref v5, .ref v6, .ref v7, .ref v8, .ref v9, .ref v10, .ref v11, .ref v12, .ref v13, .int gl, .ref v15])), (v9, .inl (g.2.1 1, 72, .inl L)), (v10, .inl (g.2.1 1, 175, .inl K))] (fun r u => r = (F_X11_down1 lc L K y z).1 ∧ u = [(h0, .inr (11, [.ref a0, .ref a1, .ref a2, .ref a3, .ref a4, .ref a5, .ref a6, .ref a7, .ref a8, .ref a9, .ref a10, .int (nI nv), .int (nI np), .int cc])), (a1, .inl (g.2.1 4, 10, .inr (.inr (.inr (.inr fA))))), (v, .inr (10, [.int pe, .int (nI lc), .int de, .ref v3, .ref v4, .ref v5, .ref v6, .ref v7, .ref v8, .ref v9, .ref v10, .ref v11, .ref v12, .ref v13, .int gl, .ref v15])), (v9, .inl (g.2.1 1, 72, .inl ((F_X11_down1 lc L K y z).2.1))), (v10, .inl (g.2.1 1, 175, .inl ((F_X11_down1 lc L K y z).2.2)))]) := by
  refine MetI.of (own := RX11) rfl (by decide) (Nat.le_of_ble_eq_true rfl) ?_
  intro p e s m below meth c A ls args Q hQ X hr hin hW hl
  have hx := X.1
  have hb := X.2.1
  have hl : lv_has ls 5 [(0, .ref h0), (1, .int (nI i)), (2, .int y), (3, .int z)] := hl
  refine lv_aload_n (pc := 0) hx hb dX11_down_0 rfl (lv_at hl 0 rfl) ?_
  refine lv_iload_n (pc := 1) hx hb dX11_down_1 rfl (lv_at hl 1 rfl) ?_
  refine c_Vq (pc := 2) (As := [.int (nI i)]) (rest := []) (wr := [(v, .inr (10, [.int pe, .int (nI lc), .int de, .ref v3, .ref v4, .ref v5, .ref v6, .ref v7, .ref v8, .ref v9, .ref v10, .ref v11, .ref v12, .ref v13, .int gl, .ref v15])), (v9, .inl (g.2.1 1, 72, .inl L)), (v10, .inl (g.2.1 1, 175, .inl K))]) X hW 0 ciX11 rfl (C_X11_valleyAt1 l g h0 a0 a1 a2 a3 a4 a5 a6 a7 a8 a9 a10 nv np cc fA i v (by omega) (by omega) hA) vX11_101 [0, 1] [2, 3, 4] rfl rfl rfl rfl rfl rfl hl.1 rfl (Nat.le_of_ble_eq_true rfl) ⟨Nat.le_of_ble_eq_true rfl, Nat.le_of_ble_eq_true rfl⟩ ⟨Nat.le_of_ble_eq_true rfl, Nat.le_of_ble_eq_true rfl⟩ dX11_down_2 (fun r1 u9 H locs hq hW => ?_)
  obtain ⟨rfl, rfl⟩ := hq
  have hW : WD g A s _ _ [(v, .inr (10, [.int pe, .int (nI lc), .int de, .ref v3, .ref v4, .ref v5, .ref v6, .ref v7, .ref v8, .ref v9, .ref v10, .ref v11, .ref v12, .ref v13, .int gl, .ref v15])), (v9, .inl (g.2.1 1, 72, .inl L)), (v10, .inl (g.2.1 1, 175, .inl K)), (h0, .inr (11, [.ref a0, .ref a1, .ref a2, .ref a3, .ref a4, .ref a5, .ref a6, .ref a7, .ref a8, .ref a9, .ref a10, .int (nI nv), .int (nI np), .int cc])), (a1, .inl (g.2.1 4, 10, .inr (.inr (.inr (.inr fA)))))] := hW
  refine lv_astore (lv' := [(4, .ref v), (0, .ref h0), (1, .int (nI i)), (2, .int y), (3, .int z)]) (pc := 5) hx hb dX11_down_5 hl (by decide) rfl (fun ls hl => ?_)
  refine lv_aload (pc := 7) hx hb dX11_down_7 (lv_at hl 0 rfl) ?_
  refine lv_ifnull (pc := 9) hx hb dX11_down_9 ?_
  refine lv_aload (pc := 12) hx hb dX11_down_12 (lv_at hl 0 rfl) ?_
  refine lv_iload_n (pc := 14) hx hb dX11_down_14 rfl (lv_at hl 3 rfl) ?_
  refine c_Vi (pc := 15) (As := [.int y]) (rest := []) (wr := [(v9, .inl (g.2.1 1, 72, .inl L)), (v10, .inl (g.2.1 1, 175, .inl K)), (h0, .inr (11, [.ref a0, .ref a1, .ref a2, .ref a3, .ref a4, .ref a5, .ref a6, .ref a7, .ref a8, .ref a9, .ref a10, .int (nI nv), .int (nI np), .int cc])), (a1, .inl (g.2.1 4, 10, .inr (.inr (.inr (.inr fA)))))]) X hW 0 ciX10 rfl (K_X10_hasLine l g v v3 v4 v5 v6 v7 v8 v9 v10 v11 v12 v13 v15 pe (nI lc) de gl y) vX11_124 [0] [1, 2, 3, 4] rfl rfl rfl rfl rfl rfl hl.1 rfl (Nat.le_of_ble_eq_true rfl) ⟨Nat.le_of_ble_eq_true rfl, Nat.le_of_ble_eq_true rfl⟩ ⟨Nat.le_of_ble_eq_true rfl, Nat.le_of_ble_eq_true rfl⟩ dX11_down_15 (fun r2 u9 H locs hq hW => ?_)
  obtain ⟨rfl, rfl⟩ := hq
  have hW : WD g A s _ _ [(v9, .inl (g.2.1 1, 72, .inl L)), (v10, .inl (g.2.1 1, 175, .inl K)), (h0, .inr (11, [.ref a0, .ref a1, .ref a2, .ref a3, .ref a4, .ref a5, .ref a6, .ref a7, .ref a8, .ref a9, .ref a10, .int (nI nv), .int (nI np), .int cc])), (a1, .inl (g.2.1 4, 10, .inr (.inr (.inr (.inr fA))))), (v, .inr (10, [.int pe, .int (nI lc), .int de, .ref v3, .ref v4, .ref v5, .ref v6, .ref v7, .ref v8, .ref v9, .ref v10, .ref v11, .ref v12, .ref v13, .int gl, .ref v15]))] := hW
  refine lv_if_eq (tgt := 33) (pc := 18) hx hb dX11_down_18 rfl (fun c3 => ?_) (fun c3 => ?_)
  · refine lv_iconst (v := 0) (pc := 33) hx hb dX11_down_33 (by decide) ?_
    have hF : F_X11_down1 lc L K y z = ((0 : Int32), L, K) := show F_X11_down1 lc L K y z = ((0 : Int32), L, K) from by rw [F_X11_down1, if_pos c3]
    exact e_z (u := [(h0, .inr (11, [.ref a0, .ref a1, .ref a2, .ref a3, .ref a4, .ref a5, .ref a6, .ref a7, .ref a8, .ref a9, .ref a10, .int (nI nv), .int (nI np), .int cc])), (a1, .inl (g.2.1 4, 10, .inr (.inr (.inr (.inr fA))))), (v, .inr (10, [.int pe, .int (nI lc), .int de, .ref v3, .ref v4, .ref v5, .ref v6, .ref v7, .ref v8, .ref v9, .ref v10, .ref v11, .ref v12, .ref v13, .int gl, .ref v15])), (v9, .inl (g.2.1 1, 72, .inl L)), (v10, .inl (g.2.1 1, 175, .inl K))]) X hQ hr (hW) rfl [2, 3, 4, 0, 1] rfl rfl (⟨(congrArg Prod.fst hF).symm, by rw [hF]⟩) ⟨Nat.le_of_ble_eq_true rfl, Nat.le_of_ble_eq_true rfl⟩ dX11_down_34
  · have hb18 := c3
    refine lv_iload_n (pc := 21) hx hb dX11_down_21 rfl (lv_at hl 4 rfl) ?_
    refine lv_iconst (v := (-1)) (pc := 22) hx hb dX11_down_22 (by decide) ?_
    refine lv_icmp_eq (tgt := 35) (pc := 23) hx hb dX11_down_23 rfl (fun c6 => ?_) (fun c6 => ?_)
    · have hln := hl_at (x := y) (n := lc) (by omega) hb18
      have hln2 := hln.2
      rw [hln.1] at hl
      refine lv_aload (pc := 35) hx hb dX11_down_35 (lv_at hl 0 rfl) ?_
      refine lv_iload_n (pc := 37) hx hb dX11_down_37 rfl (lv_at hl 3 rfl) ?_
      refine lv_iload_n (pc := 38) hx hb dX11_down_38 rfl (lv_at hl 4 rfl) ?_
      refine c_Vv (pc := 39) (As := [.int (nI (tN y)), .int z]) (rest := []) (wr := [(h0, .inr (11, [.ref a0, .ref a1, .ref a2, .ref a3, .ref a4, .ref a5, .ref a6, .ref a7, .ref a8, .ref a9, .ref a10, .int (nI nv), .int (nI np), .int cc])), (a1, .inl (g.2.1 4, 10, .inr (.inr (.inr (.inr fA)))))]) X hW 4 ciX10 rfl (K_X10_setDown l g v v3 v4 v5 v6 v7 v8 v9 v10 v11 v12 v13 v15 pe lc de gl L K pp (tN y) z (by omega) (by omega) (by omega) hL) vX11_137 [4, 0, 1] [2, 3] rfl rfl rfl rfl rfl rfl hl.1 rfl (Nat.le_of_ble_eq_true rfl) ⟨Nat.le_of_ble_eq_true rfl, Nat.le_of_ble_eq_true rfl⟩ ⟨Nat.le_of_ble_eq_true rfl, Nat.le_of_ble_eq_true rfl⟩ dX11_down_39 (fun u9 H locs hq hW => ?_)
      obtain rfl := hq
      have hW : WD g A s _ _ [(h0, .inr (11, [.ref a0, .ref a1, .ref a2, .ref a3, .ref a4, .ref a5, .ref a6, .ref a7, .ref a8, .ref a9, .ref a10, .int (nI nv), .int (nI np), .int cc])), (a1, .inl (g.2.1 4, 10, .inr (.inr (.inr (.inr fA))))), (v, .inr (10, [.int pe, .int (nI lc), .int de, .ref v3, .ref v4, .ref v5, .ref v6, .ref v7, .ref v8, .ref v9, .ref v10, .ref v11, .ref v12, .ref v13, .int gl, .ref v15])), (v9, .inl (g.2.1 1, 72, .inl ((F_X10_setDown lc L (tN y) z).1))), (v10, .inl (g.2.1 1, 175, .inl ((F_X10_setDown lc L (tN y) z).2)))] := hW
      refine lv_iconst (v := 1) (pc := 42) hx hb dX11_down_42 (by decide) ?_
      have hF : F_X11_down1 lc L K y z = ((1 : Int32), ((F_X10_setDown lc L (tN y) z).1), ((F_X10_setDown lc L (tN y) z).2)) := show F_X11_down1 lc L K y z = ((1 : Int32), ((F_X10_setDown lc L (tN y) z).1), ((F_X10_setDown lc L (tN y) z).2)) from by rw [F_X11_down1, if_neg c3, if_pos c6]
      exact e_z (u := [(h0, .inr (11, [.ref a0, .ref a1, .ref a2, .ref a3, .ref a4, .ref a5, .ref a6, .ref a7, .ref a8, .ref a9, .ref a10, .int (nI nv), .int (nI np), .int cc])), (a1, .inl (g.2.1 4, 10, .inr (.inr (.inr (.inr fA))))), (v, .inr (10, [.int pe, .int (nI lc), .int de, .ref v3, .ref v4, .ref v5, .ref v6, .ref v7, .ref v8, .ref v9, .ref v10, .ref v11, .ref v12, .ref v13, .int gl, .ref v15])), (v9, .inl (g.2.1 1, 72, .inl ((F_X10_setDown lc L (tN y) z).1))), (v10, .inl (g.2.1 1, 175, .inl ((F_X10_setDown lc L (tN y) z).2)))]) X hQ hr (hW) rfl [0, 1, 2, 3, 4] rfl rfl (⟨(congrArg Prod.fst hF).symm, by rw [hF]⟩) ⟨Nat.le_of_ble_eq_true rfl, Nat.le_of_ble_eq_true rfl⟩ dX11_down_43
    · refine lv_iload_n (pc := 26) hx hb dX11_down_26 rfl (lv_at hl 4 rfl) ?_
      refine c_Si (pc := 27) (As := [.int z]) (rest := []) (wr := [(v9, .inl (g.2.1 1, 72, .inl L)), (v10, .inl (g.2.1 1, 175, .inl K)), (h0, .inr (11, [.ref a0, .ref a1, .ref a2, .ref a3, .ref a4, .ref a5, .ref a6, .ref a7, .ref a8, .ref a9, .ref a10, .int (nI nv), .int (nI np), .int cc])), (a1, .inl (g.2.1 4, 10, .inr (.inr (.inr (.inr fA))))), (v, .inr (10, [.int pe, .int (nI lc), .int de, .ref v3, .ref v4, .ref v5, .ref v6, .ref v7, .ref v8, .ref v9, .ref v10, .ref v11, .ref v12, .ref v13, .int gl, .ref v15]))]) X hW (K_X11_isHour l g z) vX11_134 [] [0, 1, 2, 3, 4] rfl rfl rfl rfl rfl rfl hl.1 rfl (Nat.le_of_ble_eq_true rfl) ⟨Nat.le_of_ble_eq_true rfl, Nat.le_of_ble_eq_true rfl⟩ ⟨Nat.le_of_ble_eq_true rfl, Nat.le_of_ble_eq_true rfl⟩ dX11_down_27 (fun r9 u9 H locs hq hW => ?_)
      obtain ⟨rfl, rfl⟩ := hq
      have hW : WD g A s _ _ [(v9, .inl (g.2.1 1, 72, .inl L)), (v10, .inl (g.2.1 1, 175, .inl K)), (h0, .inr (11, [.ref a0, .ref a1, .ref a2, .ref a3, .ref a4, .ref a5, .ref a6, .ref a7, .ref a8, .ref a9, .ref a10, .int (nI nv), .int (nI np), .int cc])), (a1, .inl (g.2.1 4, 10, .inr (.inr (.inr (.inr fA))))), (v, .inr (10, [.int pe, .int (nI lc), .int de, .ref v3, .ref v4, .ref v5, .ref v6, .ref v7, .ref v8, .ref v9, .ref v10, .ref v11, .ref v12, .ref v13, .int gl, .ref v15]))] := hW
      refine lv_if_ne (tgt := 35) (pc := 30) hx hb dX11_down_30 rfl (fun c10 => ?_) (fun c10 => ?_)
      · have hln := hl_at (x := y) (n := lc) (by omega) hb18
        have hln2 := hln.2
        rw [hln.1] at hl
        refine lv_aload (pc := 35) hx hb dX11_down_35 (lv_at hl 0 rfl) ?_
        refine lv_iload_n (pc := 37) hx hb dX11_down_37 rfl (lv_at hl 3 rfl) ?_
        refine lv_iload_n (pc := 38) hx hb dX11_down_38 rfl (lv_at hl 4 rfl) ?_
        refine c_Vv (pc := 39) (As := [.int (nI (tN y)), .int z]) (rest := []) (wr := [(h0, .inr (11, [.ref a0, .ref a1, .ref a2, .ref a3, .ref a4, .ref a5, .ref a6, .ref a7, .ref a8, .ref a9, .ref a10, .int (nI nv), .int (nI np), .int cc])), (a1, .inl (g.2.1 4, 10, .inr (.inr (.inr (.inr fA)))))]) X hW 4 ciX10 rfl (K_X10_setDown l g v v3 v4 v5 v6 v7 v8 v9 v10 v11 v12 v13 v15 pe lc de gl L K pp (tN y) z (by omega) (by omega) (by omega) hL) vX11_137 [4, 0, 1] [2, 3] rfl rfl rfl rfl rfl rfl hl.1 rfl (Nat.le_of_ble_eq_true rfl) ⟨Nat.le_of_ble_eq_true rfl, Nat.le_of_ble_eq_true rfl⟩ ⟨Nat.le_of_ble_eq_true rfl, Nat.le_of_ble_eq_true rfl⟩ dX11_down_39 (fun u9 H locs hq hW => ?_)
        obtain rfl := hq
        have hW : WD g A s _ _ [(h0, .inr (11, [.ref a0, .ref a1, .ref a2, .ref a3, .ref a4, .ref a5, .ref a6, .ref a7, .ref a8, .ref a9, .ref a10, .int (nI nv), .int (nI np), .int cc])), (a1, .inl (g.2.1 4, 10, .inr (.inr (.inr (.inr fA))))), (v, .inr (10, [.int pe, .int (nI lc), .int de, .ref v3, .ref v4, .ref v5, .ref v6, .ref v7, .ref v8, .ref v9, .ref v10, .ref v11, .ref v12, .ref v13, .int gl, .ref v15])), (v9, .inl (g.2.1 1, 72, .inl ((F_X10_setDown lc L (tN y) z).1))), (v10, .inl (g.2.1 1, 175, .inl ((F_X10_setDown lc L (tN y) z).2)))] := hW
        refine lv_iconst (v := 1) (pc := 42) hx hb dX11_down_42 (by decide) ?_
        have hF : F_X11_down1 lc L K y z = ((1 : Int32), ((F_X10_setDown lc L (tN y) z).1), ((F_X10_setDown lc L (tN y) z).2)) := show F_X11_down1 lc L K y z = ((1 : Int32), ((F_X10_setDown lc L (tN y) z).1), ((F_X10_setDown lc L (tN y) z).2)) from by rw [F_X11_down1, if_neg c3, if_neg c6, if_neg c10]
        exact e_z (u := [(h0, .inr (11, [.ref a0, .ref a1, .ref a2, .ref a3, .ref a4, .ref a5, .ref a6, .ref a7, .ref a8, .ref a9, .ref a10, .int (nI nv), .int (nI np), .int cc])), (a1, .inl (g.2.1 4, 10, .inr (.inr (.inr (.inr fA))))), (v, .inr (10, [.int pe, .int (nI lc), .int de, .ref v3, .ref v4, .ref v5, .ref v6, .ref v7, .ref v8, .ref v9, .ref v10, .ref v11, .ref v12, .ref v13, .int gl, .ref v15])), (v9, .inl (g.2.1 1, 72, .inl ((F_X10_setDown lc L (tN y) z).1))), (v10, .inl (g.2.1 1, 175, .inl ((F_X10_setDown lc L (tN y) z).2)))]) X hQ hr (hW) rfl [0, 1, 2, 3, 4] rfl rfl (⟨(congrArg Prod.fst hF).symm, by rw [hF]⟩) ⟨Nat.le_of_ble_eq_true rfl, Nat.le_of_ble_eq_true rfl⟩ dX11_down_43
      · refine lv_iconst (v := 0) (pc := 33) hx hb dX11_down_33 (by decide) ?_
        have hF : F_X11_down1 lc L K y z = ((0 : Int32), L, K) := show F_X11_down1 lc L K y z = ((0 : Int32), L, K) from by rw [F_X11_down1, if_neg c3, if_neg c6, if_pos c10]
        exact e_z (u := [(h0, .inr (11, [.ref a0, .ref a1, .ref a2, .ref a3, .ref a4, .ref a5, .ref a6, .ref a7, .ref a8, .ref a9, .ref a10, .int (nI nv), .int (nI np), .int cc])), (a1, .inl (g.2.1 4, 10, .inr (.inr (.inr (.inr fA))))), (v, .inr (10, [.int pe, .int (nI lc), .int de, .ref v3, .ref v4, .ref v5, .ref v6, .ref v7, .ref v8, .ref v9, .ref v10, .ref v11, .ref v12, .ref v13, .int gl, .ref v15])), (v9, .inl (g.2.1 1, 72, .inl L)), (v10, .inl (g.2.1 1, 175, .inl K))]) X hQ hr (hW) rfl [2, 3, 4, 0, 1] rfl rfl (⟨(congrArg Prod.fst hF).symm, by rw [hF]⟩) ⟨Nat.le_of_ble_eq_true rfl, Nat.le_of_ble_eq_true rfl⟩ dX11_down_34

def F_X11_may0  : Int32 := (-1 : Int32)
set_option maxHeartbeats 4000000 in
set_option maxRecDepth 100000 in
theorem K_X11_may0 (l : Launch) (g : GG) (h0 : Nat) (a0 : Nat) (a1 : Nat) (a2 : Nat) (a3 : Nat) (a4 : Nat) (a5 : Nat) (a6 : Nat) (a7 : Nat) (a8 : Nat) (a9 : Nat) (a10 : Nat) (nv : Nat) (np : Nat) (cc : Int32) (fA : Nat → Option Nat) (x : Int32) (y : Int32) (z : Int32) (t : Int32) (hbad : x < 0 ∨ nI nv ≤ x) : MetI l g yX11_may cX11_may 6 (some .int) 1 0 0 [.ref h0, .int x, .int y, .int z, .int t] [(h0, .inr (11, [.ref a0, .ref a1, .ref a2, .ref a3, .ref a4, .ref a5, .ref a6, .ref a7, .ref a8, .ref a9, .ref a10, .int (nI nv), .int (nI np), .int cc])), (a1, .inl (g.2.1 4, 10, .inr (.inr (.inr (.inr fA)))))] (fun r u => r = F_X11_may0 ∧ u = [(h0, .inr (11, [.ref a0, .ref a1, .ref a2, .ref a3, .ref a4, .ref a5, .ref a6, .ref a7, .ref a8, .ref a9, .ref a10, .int (nI nv), .int (nI np), .int cc])), (a1, .inl (g.2.1 4, 10, .inr (.inr (.inr (.inr fA)))))]) := by
  refine MetI.of (own := RX11) rfl (by decide) (Nat.le_of_ble_eq_true rfl) ?_
  intro p e s m below meth c A ls args Q hQ X hr hin hW hl
  have hx := X.1
  have hb := X.2.1
  have hl : lv_has ls 6 [(0, .ref h0), (1, .int x), (2, .int y), (3, .int z), (4, .int t)] := hl
  refine lv_aload_n (pc := 0) hx hb dX11_may_0 rfl (lv_at hl 0 rfl) ?_
  refine lv_iload_n (pc := 1) hx hb dX11_may_1 rfl (lv_at hl 1 rfl) ?_
  refine c_Vq (pc := 2) (As := [.int x]) (rest := []) (wr := []) X hW 0 ciX11 rfl (C_X11_valleyAt0 l g h0 a0 a1 a2 a3 a4 a5 a6 a7 a8 a9 a10 nv np cc fA x hbad) vX11_101 [0, 1] [] rfl rfl rfl rfl rfl rfl hl.1 rfl (Nat.le_of_ble_eq_true rfl) ⟨Nat.le_of_ble_eq_true rfl, Nat.le_of_ble_eq_true rfl⟩ ⟨Nat.le_of_ble_eq_true rfl, Nat.le_of_ble_eq_true rfl⟩ dX11_may_2 (fun r1 u9 H locs hq hW => ?_)
  obtain ⟨rfl, rfl⟩ := hq
  have hW : WD g A s _ _ [(h0, .inr (11, [.ref a0, .ref a1, .ref a2, .ref a3, .ref a4, .ref a5, .ref a6, .ref a7, .ref a8, .ref a9, .ref a10, .int (nI nv), .int (nI np), .int cc])), (a1, .inl (g.2.1 4, 10, .inr (.inr (.inr (.inr fA)))))] := hW
  refine lv_astoreN (lv' := [(5, .null), (0, .ref h0), (1, .int x), (2, .int y), (3, .int z), (4, .int t)]) (pc := 5) hx hb dX11_may_5 hl (by decide) rfl (fun ls hl => ?_)
  refine lv_aloadN (pc := 7) hx hb dX11_may_7 (lv_at hl 0 rfl) ?_
  refine lv_ifnullN (tgt := 30) (pc := 9) hx hb dX11_may_9 rfl ?_
  refine lv_iconst (v := (-1)) (pc := 30) hx hb dX11_may_30 (by decide) ?_
  have hF : F_X11_may0 = (-1 : Int32) := show F_X11_may0 = (-1 : Int32) from rfl
  exact e_i (u := [(h0, .inr (11, [.ref a0, .ref a1, .ref a2, .ref a3, .ref a4, .ref a5, .ref a6, .ref a7, .ref a8, .ref a9, .ref a10, .int (nI nv), .int (nI np), .int cc])), (a1, .inl (g.2.1 4, 10, .inr (.inr (.inr (.inr fA)))))]) X hQ hr (hW) [0, 1] rfl rfl (⟨hF.symm, rfl⟩) ⟨Nat.le_of_ble_eq_true rfl, Nat.le_of_ble_eq_true rfl⟩ dX11_may_31

def F_X11_may1 (pe : Nat) (K : Nat → Int32) (y : Int32) (z : Int32) (t : Int32) : Int32 := if F_X10_hasCouple (nI pe) y z = 0 then ((-1 : Int32)) else (if F_X11_isHour t = 0 then ((-1 : Int32)) else (if hasv (F_X10_callable K (tN y) (tN t)) z = 0 then ((0 : Int32)) else ((1 : Int32))))
set_option maxHeartbeats 4000000 in
set_option maxRecDepth 100000 in
theorem K_X11_may1 (l : Launch) (g : GG) (h0 : Nat) (a0 : Nat) (a1 : Nat) (a2 : Nat) (a3 : Nat) (a4 : Nat) (a5 : Nat) (a6 : Nat) (a7 : Nat) (a8 : Nat) (a9 : Nat) (a10 : Nat) (nv : Nat) (np : Nat) (cc : Int32) (fA : Nat → Option Nat) (i : Nat) (v : Nat) (v3 : Nat) (v4 : Nat) (v5 : Nat) (v6 : Nat) (v7 : Nat) (v8 : Nat) (v9 : Nat) (v10 : Nat) (v11 : Nat) (v12 : Nat) (v13 : Nat) (v15 : Nat) (pe : Nat) (lc : Int32) (de : Int32) (gl : Int32) (K : Nat → Int32) (y : Int32) (z : Int32) (t : Int32) (hi : i < nv) (hn : nv ≤ 10) (hA : fA i = some v) (hpe : pe ≤ 7) : MetI l g yX11_may cX11_may 6 (some .int) 2 0 0 [.ref h0, .int (nI i), .int y, .int z, .int t] [(h0, .inr (11, [.ref a0, .ref a1, .ref a2, .ref a3, .ref a4, .ref a5, .ref a6, .ref a7, .ref a8, .ref a9, .ref a10, .int (nI nv), .int (nI np), .int cc])), (a1, .inl (g.2.1 4, 10, .inr (.inr (.inr (.inr fA))))), (v, .inr (10, [.int (nI pe), .int lc, .int de, .ref v3, .ref v4, .ref v5, .ref v6, .ref v7, .ref v8, .ref v9, .ref v10, .ref v11, .ref v12, .ref v13, .int gl, .ref v15])), (v10, .inl (g.2.1 1, 175, .inl K))] (fun r u => r = (F_X11_may1 pe K y z t) ∧ u = [(h0, .inr (11, [.ref a0, .ref a1, .ref a2, .ref a3, .ref a4, .ref a5, .ref a6, .ref a7, .ref a8, .ref a9, .ref a10, .int (nI nv), .int (nI np), .int cc])), (a1, .inl (g.2.1 4, 10, .inr (.inr (.inr (.inr fA))))), (v, .inr (10, [.int (nI pe), .int lc, .int de, .ref v3, .ref v4, .ref v5, .ref v6, .ref v7, .ref v8, .ref v9, .ref v10, .ref v11, .ref v12, .ref v13, .int gl, .ref v15])), (v10, .inl (g.2.1 1, 175, .inl K))]) := by
  refine MetI.of (own := RX11) rfl (by decide) (Nat.le_of_ble_eq_true rfl) ?_
  intro p e s m below meth c A ls args Q hQ X hr hin hW hl
  have hx := X.1
  have hb := X.2.1
  have hl : lv_has ls 6 [(0, .ref h0), (1, .int (nI i)), (2, .int y), (3, .int z), (4, .int t)] := hl
  refine lv_aload_n (pc := 0) hx hb dX11_may_0 rfl (lv_at hl 0 rfl) ?_
  refine lv_iload_n (pc := 1) hx hb dX11_may_1 rfl (lv_at hl 1 rfl) ?_
  refine c_Vq (pc := 2) (As := [.int (nI i)]) (rest := []) (wr := [(v, .inr (10, [.int (nI pe), .int lc, .int de, .ref v3, .ref v4, .ref v5, .ref v6, .ref v7, .ref v8, .ref v9, .ref v10, .ref v11, .ref v12, .ref v13, .int gl, .ref v15])), (v10, .inl (g.2.1 1, 175, .inl K))]) X hW 0 ciX11 rfl (C_X11_valleyAt1 l g h0 a0 a1 a2 a3 a4 a5 a6 a7 a8 a9 a10 nv np cc fA i v (by omega) (by omega) hA) vX11_101 [0, 1] [2, 3] rfl rfl rfl rfl rfl rfl hl.1 rfl (Nat.le_of_ble_eq_true rfl) ⟨Nat.le_of_ble_eq_true rfl, Nat.le_of_ble_eq_true rfl⟩ ⟨Nat.le_of_ble_eq_true rfl, Nat.le_of_ble_eq_true rfl⟩ dX11_may_2 (fun r1 u9 H locs hq hW => ?_)
  obtain ⟨rfl, rfl⟩ := hq
  have hW : WD g A s _ _ [(v, .inr (10, [.int (nI pe), .int lc, .int de, .ref v3, .ref v4, .ref v5, .ref v6, .ref v7, .ref v8, .ref v9, .ref v10, .ref v11, .ref v12, .ref v13, .int gl, .ref v15])), (v10, .inl (g.2.1 1, 175, .inl K)), (h0, .inr (11, [.ref a0, .ref a1, .ref a2, .ref a3, .ref a4, .ref a5, .ref a6, .ref a7, .ref a8, .ref a9, .ref a10, .int (nI nv), .int (nI np), .int cc])), (a1, .inl (g.2.1 4, 10, .inr (.inr (.inr (.inr fA)))))] := hW
  refine lv_astore (lv' := [(5, .ref v), (0, .ref h0), (1, .int (nI i)), (2, .int y), (3, .int z), (4, .int t)]) (pc := 5) hx hb dX11_may_5 hl (by decide) rfl (fun ls hl => ?_)
  refine lv_aload (pc := 7) hx hb dX11_may_7 (lv_at hl 0 rfl) ?_
  refine lv_ifnull (pc := 9) hx hb dX11_may_9 ?_
  refine lv_aload (pc := 12) hx hb dX11_may_12 (lv_at hl 0 rfl) ?_
  refine lv_iload_n (pc := 14) hx hb dX11_may_14 rfl (lv_at hl 3 rfl) ?_
  refine lv_iload_n (pc := 15) hx hb dX11_may_15 rfl (lv_at hl 4 rfl) ?_
  refine c_Vi (pc := 16) (As := [.int y, .int z]) (rest := []) (wr := [(v10, .inl (g.2.1 1, 175, .inl K)), (h0, .inr (11, [.ref a0, .ref a1, .ref a2, .ref a3, .ref a4, .ref a5, .ref a6, .ref a7, .ref a8, .ref a9, .ref a10, .int (nI nv), .int (nI np), .int cc])), (a1, .inl (g.2.1 4, 10, .inr (.inr (.inr (.inr fA)))))]) X hW 0 ciX10 rfl (K_X10_hasCouple l g v v3 v4 v5 v6 v7 v8 v9 v10 v11 v12 v13 v15 (nI pe) lc de gl y z) vX11_141 [0] [1, 2, 3] rfl rfl rfl rfl rfl rfl hl.1 rfl (Nat.le_of_ble_eq_true rfl) ⟨Nat.le_of_ble_eq_true rfl, Nat.le_of_ble_eq_true rfl⟩ ⟨Nat.le_of_ble_eq_true rfl, Nat.le_of_ble_eq_true rfl⟩ dX11_may_16 (fun r2 u9 H locs hq hW => ?_)
  obtain ⟨rfl, rfl⟩ := hq
  have hW : WD g A s _ _ [(v10, .inl (g.2.1 1, 175, .inl K)), (h0, .inr (11, [.ref a0, .ref a1, .ref a2, .ref a3, .ref a4, .ref a5, .ref a6, .ref a7, .ref a8, .ref a9, .ref a10, .int (nI nv), .int (nI np), .int cc])), (a1, .inl (g.2.1 4, 10, .inr (.inr (.inr (.inr fA))))), (v, .inr (10, [.int (nI pe), .int lc, .int de, .ref v3, .ref v4, .ref v5, .ref v6, .ref v7, .ref v8, .ref v9, .ref v10, .ref v11, .ref v12, .ref v13, .int gl, .ref v15]))] := hW
  refine lv_if_eq (tgt := 30) (pc := 19) hx hb dX11_may_19 rfl (fun c3 => ?_) (fun c3 => ?_)
  · refine lv_iconst (v := (-1)) (pc := 30) hx hb dX11_may_30 (by decide) ?_
    have hF : F_X11_may1 pe K y z t = (-1 : Int32) := show F_X11_may1 pe K y z t = (-1 : Int32) from by rw [F_X11_may1, if_pos c3]
    exact e_i (u := [(h0, .inr (11, [.ref a0, .ref a1, .ref a2, .ref a3, .ref a4, .ref a5, .ref a6, .ref a7, .ref a8, .ref a9, .ref a10, .int (nI nv), .int (nI np), .int cc])), (a1, .inl (g.2.1 4, 10, .inr (.inr (.inr (.inr fA))))), (v, .inr (10, [.int (nI pe), .int lc, .int de, .ref v3, .ref v4, .ref v5, .ref v6, .ref v7, .ref v8, .ref v9, .ref v10, .ref v11, .ref v12, .ref v13, .int gl, .ref v15])), (v10, .inl (g.2.1 1, 175, .inl K))]) X hQ hr (hW) [1, 2, 3, 0] rfl rfl (⟨hF.symm, rfl⟩) ⟨Nat.le_of_ble_eq_true rfl, Nat.le_of_ble_eq_true rfl⟩ dX11_may_31
  · have q22 := c3
    refine lv_iload (pc := 22) hx hb dX11_may_22 (lv_at hl 5 rfl) ?_
    refine c_Si (pc := 24) (As := [.int t]) (rest := []) (wr := [(v10, .inl (g.2.1 1, 175, .inl K)), (h0, .inr (11, [.ref a0, .ref a1, .ref a2, .ref a3, .ref a4, .ref a5, .ref a6, .ref a7, .ref a8, .ref a9, .ref a10, .int (nI nv), .int (nI np), .int cc])), (a1, .inl (g.2.1 4, 10, .inr (.inr (.inr (.inr fA))))), (v, .inr (10, [.int (nI pe), .int lc, .int de, .ref v3, .ref v4, .ref v5, .ref v6, .ref v7, .ref v8, .ref v9, .ref v10, .ref v11, .ref v12, .ref v13, .int gl, .ref v15]))]) X hW (K_X11_isHour l g t) vX11_134 [] [0, 1, 2, 3] rfl rfl rfl rfl rfl rfl hl.1 rfl (Nat.le_of_ble_eq_true rfl) ⟨Nat.le_of_ble_eq_true rfl, Nat.le_of_ble_eq_true rfl⟩ ⟨Nat.le_of_ble_eq_true rfl, Nat.le_of_ble_eq_true rfl⟩ dX11_may_24 (fun r6 u9 H locs hq hW => ?_)
    obtain ⟨rfl, rfl⟩ := hq
    have hW : WD g A s _ _ [(v10, .inl (g.2.1 1, 175, .inl K)), (h0, .inr (11, [.ref a0, .ref a1, .ref a2, .ref a3, .ref a4, .ref a5, .ref a6, .ref a7, .ref a8, .ref a9, .ref a10, .int (nI nv), .int (nI np), .int cc])), (a1, .inl (g.2.1 4, 10, .inr (.inr (.inr (.inr fA))))), (v, .inr (10, [.int (nI pe), .int lc, .int de, .ref v3, .ref v4, .ref v5, .ref v6, .ref v7, .ref v8, .ref v9, .ref v10, .ref v11, .ref v12, .ref v13, .int gl, .ref v15]))] := hW
    refine lv_if_ne (tgt := 32) (pc := 27) hx hb dX11_may_27 rfl (fun c7 => ?_) (fun c7 => ?_)
    · have hcp := hc_at (n := pe) (by omega) q22
      have hcp1 := hcp.1.2
      have hcp2 := hcp.2.1.2
      have hho := hr_at c7
      have hho2 := hho.2
      rw [hcp.1.1] at hl
      rw [hho.1] at hl
      refine lv_aload (pc := 32) hx hb dX11_may_32 (lv_at hl 0 rfl) ?_
      refine lv_iload_n (pc := 34) hx hb dX11_may_34 rfl (lv_at hl 3 rfl) ?_
      refine lv_iload (pc := 35) hx hb dX11_may_35 (lv_at hl 5 rfl) ?_
      refine c_Vi (pc := 37) (As := [.int (nI (tN y)), .int (nI (tN t))]) (rest := []) (wr := [(h0, .inr (11, [.ref a0, .ref a1, .ref a2, .ref a3, .ref a4, .ref a5, .ref a6, .ref a7, .ref a8, .ref a9, .ref a10, .int (nI nv), .int (nI np), .int cc])), (a1, .inl (g.2.1 4, 10, .inr (.inr (.inr (.inr fA)))))]) X hW 3 ciX10 rfl (K_X10_callable l g v v3 v4 v5 v6 v7 v8 v9 v10 v11 v12 v13 v15 (nI pe) lc de gl K (tN y) (tN t) (by omega) (by omega)) vX11_145 [3, 0] [1, 2] rfl rfl rfl rfl rfl rfl hl.1 rfl (Nat.le_of_ble_eq_true rfl) ⟨Nat.le_of_ble_eq_true rfl, Nat.le_of_ble_eq_true rfl⟩ ⟨Nat.le_of_ble_eq_true rfl, Nat.le_of_ble_eq_true rfl⟩ dX11_may_37 (fun r9 u9 H locs hq hW => ?_)
      obtain ⟨rfl, rfl⟩ := hq
      have hW : WD g A s _ _ [(h0, .inr (11, [.ref a0, .ref a1, .ref a2, .ref a3, .ref a4, .ref a5, .ref a6, .ref a7, .ref a8, .ref a9, .ref a10, .int (nI nv), .int (nI np), .int cc])), (a1, .inl (g.2.1 4, 10, .inr (.inr (.inr (.inr fA))))), (v, .inr (10, [.int (nI pe), .int lc, .int de, .ref v3, .ref v4, .ref v5, .ref v6, .ref v7, .ref v8, .ref v9, .ref v10, .ref v11, .ref v12, .ref v13, .int gl, .ref v15])), (v10, .inl (g.2.1 1, 175, .inl K))] := hW
      refine lv_iload_n (pc := 40) hx hb dX11_may_40 rfl (lv_at hl 4 rfl) ?_
      refine c_Si (pc := 41) (As := [.int (F_X10_callable K (tN y) (tN t)), .int z]) (rest := []) (wr := [(h0, .inr (11, [.ref a0, .ref a1, .ref a2, .ref a3, .ref a4, .ref a5, .ref a6, .ref a7, .ref a8, .ref a9, .ref a10, .int (nI nv), .int (nI np), .int cc])), (a1, .inl (g.2.1 4, 10, .inr (.inr (.inr (.inr fA))))), (v, .inr (10, [.int (nI pe), .int lc, .int de, .ref v3, .ref v4, .ref v5, .ref v6, .ref v7, .ref v8, .ref v9, .ref v10, .ref v11, .ref v12, .ref v13, .int gl, .ref v15])), (v10, .inl (g.2.1 1, 175, .inl K))]) X hW (C_X11_has l g (F_X10_callable K (tN y) (tN t)) z) vX11_148 [] [0, 1, 2, 3] rfl rfl rfl rfl rfl rfl hl.1 rfl (Nat.le_of_ble_eq_true rfl) ⟨Nat.le_of_ble_eq_true rfl, Nat.le_of_ble_eq_true rfl⟩ ⟨Nat.le_of_ble_eq_true rfl, Nat.le_of_ble_eq_true rfl⟩ dX11_may_41 (fun r10 u9 H locs hq hW => ?_)
      obtain ⟨rfl, rfl⟩ := hq
      have hW : WD g A s _ _ [(h0, .inr (11, [.ref a0, .ref a1, .ref a2, .ref a3, .ref a4, .ref a5, .ref a6, .ref a7, .ref a8, .ref a9, .ref a10, .int (nI nv), .int (nI np), .int cc])), (a1, .inl (g.2.1 4, 10, .inr (.inr (.inr (.inr fA))))), (v, .inr (10, [.int (nI pe), .int lc, .int de, .ref v3, .ref v4, .ref v5, .ref v6, .ref v7, .ref v8, .ref v9, .ref v10, .ref v11, .ref v12, .ref v13, .int gl, .ref v15])), (v10, .inl (g.2.1 1, 175, .inl K))] := hW
      refine lv_if_eq (tgt := 51) (pc := 44) hx hb dX11_may_44 rfl (fun c11 => ?_) (fun c11 => ?_)
      · refine lv_iconst (v := 0) (pc := 51) hx hb dX11_may_51 (by decide) ?_
        have hF : F_X11_may1 pe K y z t = (0 : Int32) := show F_X11_may1 pe K y z t = (0 : Int32) from by rw [F_X11_may1, if_neg c3, if_neg c7, if_pos c11]
        exact e_i (u := [(h0, .inr (11, [.ref a0, .ref a1, .ref a2, .ref a3, .ref a4, .ref a5, .ref a6, .ref a7, .ref a8, .ref a9, .ref a10, .int (nI nv), .int (nI np), .int cc])), (a1, .inl (g.2.1 4, 10, .inr (.inr (.inr (.inr fA))))), (v, .inr (10, [.int (nI pe), .int lc, .int de, .ref v3, .ref v4, .ref v5, .ref v6, .ref v7, .ref v8, .ref v9, .ref v10, .ref v11, .ref v12, .ref v13, .int gl, .ref v15])), (v10, .inl (g.2.1 1, 175, .inl K))]) X hQ hr (hW) [0, 1, 2, 3] rfl rfl (⟨hF.symm, rfl⟩) ⟨Nat.le_of_ble_eq_true rfl, Nat.le_of_ble_eq_true rfl⟩ dX11_may_52
      · refine lv_iconst (v := 1) (pc := 47) hx hb dX11_may_47 (by decide) ?_
        refine lv_goto (tgt := 52) (pc := 48) hx hb dX11_may_48 rfl ?_
        have hF : F_X11_may1 pe K y z t = (1 : Int32) := show F_X11_may1 pe K y z t = (1 : Int32) from by rw [F_X11_may1, if_neg c3, if_neg c7, if_neg c11]
        exact e_i (u := [(h0, .inr (11, [.ref a0, .ref a1, .ref a2, .ref a3, .ref a4, .ref a5, .ref a6, .ref a7, .ref a8, .ref a9, .ref a10, .int (nI nv), .int (nI np), .int cc])), (a1, .inl (g.2.1 4, 10, .inr (.inr (.inr (.inr fA))))), (v, .inr (10, [.int (nI pe), .int lc, .int de, .ref v3, .ref v4, .ref v5, .ref v6, .ref v7, .ref v8, .ref v9, .ref v10, .ref v11, .ref v12, .ref v13, .int gl, .ref v15])), (v10, .inl (g.2.1 1, 175, .inl K))]) X hQ hr (hW) [0, 1, 2, 3] rfl rfl (⟨hF.symm, rfl⟩) ⟨Nat.le_of_ble_eq_true rfl, Nat.le_of_ble_eq_true rfl⟩ dX11_may_52
    · refine lv_iconst (v := (-1)) (pc := 30) hx hb dX11_may_30 (by decide) ?_
      have hF : F_X11_may1 pe K y z t = (-1 : Int32) := show F_X11_may1 pe K y z t = (-1 : Int32) from by rw [F_X11_may1, if_neg c3, if_pos c7]
      exact e_i (u := [(h0, .inr (11, [.ref a0, .ref a1, .ref a2, .ref a3, .ref a4, .ref a5, .ref a6, .ref a7, .ref a8, .ref a9, .ref a10, .int (nI nv), .int (nI np), .int cc])), (a1, .inl (g.2.1 4, 10, .inr (.inr (.inr (.inr fA))))), (v, .inr (10, [.int (nI pe), .int lc, .int de, .ref v3, .ref v4, .ref v5, .ref v6, .ref v7, .ref v8, .ref v9, .ref v10, .ref v11, .ref v12, .ref v13, .int gl, .ref v15])), (v10, .inl (g.2.1 1, 175, .inl K))]) X hQ hr (hW) [1, 2, 3, 0] rfl rfl (⟨hF.symm, rfl⟩) ⟨Nat.le_of_ble_eq_true rfl, Nat.le_of_ble_eq_true rfl⟩ dX11_may_31

def F_X11_card0  : Int32 := (-1 : Int32)
set_option maxHeartbeats 4000000 in
set_option maxRecDepth 100000 in
theorem K_X11_card0 (l : Launch) (g : GG) (h0 : Nat) (a0 : Nat) (a1 : Nat) (a2 : Nat) (a3 : Nat) (a4 : Nat) (a5 : Nat) (a6 : Nat) (a7 : Nat) (a8 : Nat) (a9 : Nat) (a10 : Nat) (nv : Nat) (np : Nat) (cc : Int32) (fA : Nat → Option Nat) (x : Int32) (y : Int32) (z : Int32) (hbad : x < 0 ∨ nI nv ≤ x) : MetI l g yX11_card cX11_card 5 (some .int) 1 0 0 [.ref h0, .int x, .int y, .int z] [(h0, .inr (11, [.ref a0, .ref a1, .ref a2, .ref a3, .ref a4, .ref a5, .ref a6, .ref a7, .ref a8, .ref a9, .ref a10, .int (nI nv), .int (nI np), .int cc])), (a1, .inl (g.2.1 4, 10, .inr (.inr (.inr (.inr fA)))))] (fun r u => r = F_X11_card0 ∧ u = [(h0, .inr (11, [.ref a0, .ref a1, .ref a2, .ref a3, .ref a4, .ref a5, .ref a6, .ref a7, .ref a8, .ref a9, .ref a10, .int (nI nv), .int (nI np), .int cc])), (a1, .inl (g.2.1 4, 10, .inr (.inr (.inr (.inr fA)))))]) := by
  refine MetI.of (own := RX11) rfl (by decide) (Nat.le_of_ble_eq_true rfl) ?_
  intro p e s m below meth c A ls args Q hQ X hr hin hW hl
  have hx := X.1
  have hb := X.2.1
  have hl : lv_has ls 5 [(0, .ref h0), (1, .int x), (2, .int y), (3, .int z)] := hl
  refine lv_aload_n (pc := 0) hx hb dX11_card_0 rfl (lv_at hl 0 rfl) ?_
  refine lv_iload_n (pc := 1) hx hb dX11_card_1 rfl (lv_at hl 1 rfl) ?_
  refine c_Vq (pc := 2) (As := [.int x]) (rest := []) (wr := []) X hW 0 ciX11 rfl (C_X11_valleyAt0 l g h0 a0 a1 a2 a3 a4 a5 a6 a7 a8 a9 a10 nv np cc fA x hbad) vX11_101 [0, 1] [] rfl rfl rfl rfl rfl rfl hl.1 rfl (Nat.le_of_ble_eq_true rfl) ⟨Nat.le_of_ble_eq_true rfl, Nat.le_of_ble_eq_true rfl⟩ ⟨Nat.le_of_ble_eq_true rfl, Nat.le_of_ble_eq_true rfl⟩ dX11_card_2 (fun r1 u9 H locs hq hW => ?_)
  obtain ⟨rfl, rfl⟩ := hq
  have hW : WD g A s _ _ [(h0, .inr (11, [.ref a0, .ref a1, .ref a2, .ref a3, .ref a4, .ref a5, .ref a6, .ref a7, .ref a8, .ref a9, .ref a10, .int (nI nv), .int (nI np), .int cc])), (a1, .inl (g.2.1 4, 10, .inr (.inr (.inr (.inr fA)))))] := hW
  refine lv_astoreN (lv' := [(4, .null), (0, .ref h0), (1, .int x), (2, .int y), (3, .int z)]) (pc := 5) hx hb dX11_card_5 hl (by decide) rfl (fun ls hl => ?_)
  refine lv_aloadN (pc := 7) hx hb dX11_card_7 (lv_at hl 0 rfl) ?_
  refine lv_ifnullN (tgt := 22) (pc := 9) hx hb dX11_card_9 rfl ?_
  refine lv_iconst (v := (-1)) (pc := 22) hx hb dX11_card_22 (by decide) ?_
  have hF : F_X11_card0 = (-1 : Int32) := show F_X11_card0 = (-1 : Int32) from rfl
  exact e_i (u := [(h0, .inr (11, [.ref a0, .ref a1, .ref a2, .ref a3, .ref a4, .ref a5, .ref a6, .ref a7, .ref a8, .ref a9, .ref a10, .int (nI nv), .int (nI np), .int cc])), (a1, .inl (g.2.1 4, 10, .inr (.inr (.inr (.inr fA)))))]) X hQ hr (hW) [0, 1] rfl rfl (⟨hF.symm, rfl⟩) ⟨Nat.le_of_ble_eq_true rfl, Nat.le_of_ble_eq_true rfl⟩ dX11_card_23

def F_X11_card1 (pe : Nat) (cd : Nat → Int32) (cl : Nat → Int32) (y : Int32) (z : Int32) : Int32 × (Nat → Int32) × (Nat → Int32) := if F_X10_hasCouple (nI pe) y z = 0 then (((-1 : Int32), cd, cl)) else (((F_X10_appendToCard cd cl (tN y) z).1, ((F_X10_appendToCard cd cl (tN y) z).2.1), ((F_X10_appendToCard cd cl (tN y) z).2.2)))
set_option maxHeartbeats 4000000 in
set_option maxRecDepth 100000 in
theorem K_X11_card1 (l : Launch) (g : GG) (h0 : Nat) (a0 : Nat) (a1 : Nat) (a2 : Nat) (a3 : Nat) (a4 : Nat) (a5 : Nat) (a6 : Nat) (a7 : Nat) (a8 : Nat) (a9 : Nat) (a10 : Nat) (nv : Nat) (np : Nat) (cc : Int32) (fA : Nat → Option Nat) (i : Nat) (v : Nat) (v3 : Nat) (v4 : Nat) (v5 : Nat) (v6 : Nat) (v7 : Nat) (v8 : Nat) (v9 : Nat) (v10 : Nat) (v11 : Nat) (v12 : Nat) (v13 : Nat) (v15 : Nat) (pe : Nat) (lc : Int32) (de : Int32) (gl : Int32) (cd : Nat → Int32) (cl : Nat → Int32) (y : Int32) (z : Int32) (hi : i < nv) (hn : nv ≤ 10) (hA : fA i = some v) (hpe : pe ≤ 7) (hcl : ∀ j : Nat, j < 7 → cl j = nI (tN (cl j)) ∧ tN (cl j) ≤ 6) : MetI l g yX11_card cX11_card 5 (some .int) 2 0 0 [.ref h0, .int (nI i), .int y, .int z] [(h0, .inr (11, [.ref a0, .ref a1, .ref a2, .ref a3, .ref a4, .ref a5, .ref a6, .ref a7, .ref a8, .ref a9, .ref a10, .int (nI nv), .int (nI np), .int cc])), (a1, .inl (g.2.1 4, 10, .inr (.inr (.inr (.inr fA))))), (v, .inr (10, [.int (nI pe), .int lc, .int de, .ref v3, .ref v4, .ref v5, .ref v6, .ref v7, .ref v8, .ref v9, .ref v10, .ref v11, .ref v12, .ref v13, .int gl, .ref v15])), (v11, .inl (g.2.1 1, 42, .inl cd)), (v12, .inl (g.2.1 1, 7, .inl cl))] (fun r u => r = (F_X11_card1 pe cd cl y z).1 ∧ u = [(h0, .inr (11, [.ref a0, .ref a1, .ref a2, .ref a3, .ref a4, .ref a5, .ref a6, .ref a7, .ref a8, .ref a9, .ref a10, .int (nI nv), .int (nI np), .int cc])), (a1, .inl (g.2.1 4, 10, .inr (.inr (.inr (.inr fA))))), (v, .inr (10, [.int (nI pe), .int lc, .int de, .ref v3, .ref v4, .ref v5, .ref v6, .ref v7, .ref v8, .ref v9, .ref v10, .ref v11, .ref v12, .ref v13, .int gl, .ref v15])), (v11, .inl (g.2.1 1, 42, .inl ((F_X11_card1 pe cd cl y z).2.1))), (v12, .inl (g.2.1 1, 7, .inl ((F_X11_card1 pe cd cl y z).2.2)))]) := by
  refine MetI.of (own := RX11) rfl (by decide) (Nat.le_of_ble_eq_true rfl) ?_
  intro p e s m below meth c A ls args Q hQ X hr hin hW hl
  have hx := X.1
  have hb := X.2.1
  have hl : lv_has ls 5 [(0, .ref h0), (1, .int (nI i)), (2, .int y), (3, .int z)] := hl
  refine lv_aload_n (pc := 0) hx hb dX11_card_0 rfl (lv_at hl 0 rfl) ?_
  refine lv_iload_n (pc := 1) hx hb dX11_card_1 rfl (lv_at hl 1 rfl) ?_
  refine c_Vq (pc := 2) (As := [.int (nI i)]) (rest := []) (wr := [(v, .inr (10, [.int (nI pe), .int lc, .int de, .ref v3, .ref v4, .ref v5, .ref v6, .ref v7, .ref v8, .ref v9, .ref v10, .ref v11, .ref v12, .ref v13, .int gl, .ref v15])), (v11, .inl (g.2.1 1, 42, .inl cd)), (v12, .inl (g.2.1 1, 7, .inl cl))]) X hW 0 ciX11 rfl (C_X11_valleyAt1 l g h0 a0 a1 a2 a3 a4 a5 a6 a7 a8 a9 a10 nv np cc fA i v (by omega) (by omega) hA) vX11_101 [0, 1] [2, 3, 4] rfl rfl rfl rfl rfl rfl hl.1 rfl (Nat.le_of_ble_eq_true rfl) ⟨Nat.le_of_ble_eq_true rfl, Nat.le_of_ble_eq_true rfl⟩ ⟨Nat.le_of_ble_eq_true rfl, Nat.le_of_ble_eq_true rfl⟩ dX11_card_2 (fun r1 u9 H locs hq hW => ?_)
  obtain ⟨rfl, rfl⟩ := hq
  have hW : WD g A s _ _ [(v, .inr (10, [.int (nI pe), .int lc, .int de, .ref v3, .ref v4, .ref v5, .ref v6, .ref v7, .ref v8, .ref v9, .ref v10, .ref v11, .ref v12, .ref v13, .int gl, .ref v15])), (v11, .inl (g.2.1 1, 42, .inl cd)), (v12, .inl (g.2.1 1, 7, .inl cl)), (h0, .inr (11, [.ref a0, .ref a1, .ref a2, .ref a3, .ref a4, .ref a5, .ref a6, .ref a7, .ref a8, .ref a9, .ref a10, .int (nI nv), .int (nI np), .int cc])), (a1, .inl (g.2.1 4, 10, .inr (.inr (.inr (.inr fA)))))] := hW
  refine lv_astore (lv' := [(4, .ref v), (0, .ref h0), (1, .int (nI i)), (2, .int y), (3, .int z)]) (pc := 5) hx hb dX11_card_5 hl (by decide) rfl (fun ls hl => ?_)
  refine lv_aload (pc := 7) hx hb dX11_card_7 (lv_at hl 0 rfl) ?_
  refine lv_ifnull (pc := 9) hx hb dX11_card_9 ?_
  refine lv_aload (pc := 12) hx hb dX11_card_12 (lv_at hl 0 rfl) ?_
  refine lv_iload_n (pc := 14) hx hb dX11_card_14 rfl (lv_at hl 3 rfl) ?_
  refine lv_iload_n (pc := 15) hx hb dX11_card_15 rfl (lv_at hl 4 rfl) ?_
  refine c_Vi (pc := 16) (As := [.int y, .int z]) (rest := []) (wr := [(v11, .inl (g.2.1 1, 42, .inl cd)), (v12, .inl (g.2.1 1, 7, .inl cl)), (h0, .inr (11, [.ref a0, .ref a1, .ref a2, .ref a3, .ref a4, .ref a5, .ref a6, .ref a7, .ref a8, .ref a9, .ref a10, .int (nI nv), .int (nI np), .int cc])), (a1, .inl (g.2.1 4, 10, .inr (.inr (.inr (.inr fA)))))]) X hW 0 ciX10 rfl (K_X10_hasCouple l g v v3 v4 v5 v6 v7 v8 v9 v10 v11 v12 v13 v15 (nI pe) lc de gl y z) vX11_141 [0] [1, 2, 3, 4] rfl rfl rfl rfl rfl rfl hl.1 rfl (Nat.le_of_ble_eq_true rfl) ⟨Nat.le_of_ble_eq_true rfl, Nat.le_of_ble_eq_true rfl⟩ ⟨Nat.le_of_ble_eq_true rfl, Nat.le_of_ble_eq_true rfl⟩ dX11_card_16 (fun r2 u9 H locs hq hW => ?_)
  obtain ⟨rfl, rfl⟩ := hq
  have hW : WD g A s _ _ [(v11, .inl (g.2.1 1, 42, .inl cd)), (v12, .inl (g.2.1 1, 7, .inl cl)), (h0, .inr (11, [.ref a0, .ref a1, .ref a2, .ref a3, .ref a4, .ref a5, .ref a6, .ref a7, .ref a8, .ref a9, .ref a10, .int (nI nv), .int (nI np), .int cc])), (a1, .inl (g.2.1 4, 10, .inr (.inr (.inr (.inr fA))))), (v, .inr (10, [.int (nI pe), .int lc, .int de, .ref v3, .ref v4, .ref v5, .ref v6, .ref v7, .ref v8, .ref v9, .ref v10, .ref v11, .ref v12, .ref v13, .int gl, .ref v15]))] := hW
  refine lv_if_ne (tgt := 24) (pc := 19) hx hb dX11_card_19 rfl (fun c3 => ?_) (fun c3 => ?_)
  · have hcp := hc_at (n := pe) (by omega) c3
    have hcp1 := hcp.1.2
    rw [hcp.1.1] at hl
    refine lv_aload (pc := 24) hx hb dX11_card_24 (lv_at hl 0 rfl) ?_
    refine lv_iload_n (pc := 26) hx hb dX11_card_26 rfl (lv_at hl 3 rfl) ?_
    refine lv_iload_n (pc := 27) hx hb dX11_card_27 rfl (lv_at hl 4 rfl) ?_
    refine c_Vi (pc := 28) (As := [.int (nI (tN y)), .int z]) (rest := []) (wr := [(h0, .inr (11, [.ref a0, .ref a1, .ref a2, .ref a3, .ref a4, .ref a5, .ref a6, .ref a7, .ref a8, .ref a9, .ref a10, .int (nI nv), .int (nI np), .int cc])), (a1, .inl (g.2.1 4, 10, .inr (.inr (.inr (.inr fA)))))]) X hW 4 ciX10 rfl (K_X10_appendToCard l g v v3 v4 v5 v6 v7 v8 v9 v10 v11 v12 v13 v15 (nI pe) lc de gl cd cl (tN y) z (by omega) hcl) vX11_270 [4, 0, 1] [2, 3] rfl rfl rfl rfl rfl rfl hl.1 rfl (Nat.le_of_ble_eq_true rfl) ⟨Nat.le_of_ble_eq_true rfl, Nat.le_of_ble_eq_true rfl⟩ ⟨Nat.le_of_ble_eq_true rfl, Nat.le_of_ble_eq_true rfl⟩ dX11_card_28 (fun r5 u9 H locs hq hW => ?_)
    obtain ⟨rfl, rfl⟩ := hq
    have hW : WD g A s _ _ [(h0, .inr (11, [.ref a0, .ref a1, .ref a2, .ref a3, .ref a4, .ref a5, .ref a6, .ref a7, .ref a8, .ref a9, .ref a10, .int (nI nv), .int (nI np), .int cc])), (a1, .inl (g.2.1 4, 10, .inr (.inr (.inr (.inr fA))))), (v, .inr (10, [.int (nI pe), .int lc, .int de, .ref v3, .ref v4, .ref v5, .ref v6, .ref v7, .ref v8, .ref v9, .ref v10, .ref v11, .ref v12, .ref v13, .int gl, .ref v15])), (v11, .inl (g.2.1 1, 42, .inl ((F_X10_appendToCard cd cl (tN y) z).2.1))), (v12, .inl (g.2.1 1, 7, .inl ((F_X10_appendToCard cd cl (tN y) z).2.2)))] := hW
    have hF : F_X11_card1 pe cd cl y z = ((F_X10_appendToCard cd cl (tN y) z).1, ((F_X10_appendToCard cd cl (tN y) z).2.1), ((F_X10_appendToCard cd cl (tN y) z).2.2)) := show F_X11_card1 pe cd cl y z = ((F_X10_appendToCard cd cl (tN y) z).1, ((F_X10_appendToCard cd cl (tN y) z).2.1), ((F_X10_appendToCard cd cl (tN y) z).2.2)) from by rw [F_X11_card1, if_neg c3]
    exact e_i (u := [(h0, .inr (11, [.ref a0, .ref a1, .ref a2, .ref a3, .ref a4, .ref a5, .ref a6, .ref a7, .ref a8, .ref a9, .ref a10, .int (nI nv), .int (nI np), .int cc])), (a1, .inl (g.2.1 4, 10, .inr (.inr (.inr (.inr fA))))), (v, .inr (10, [.int (nI pe), .int lc, .int de, .ref v3, .ref v4, .ref v5, .ref v6, .ref v7, .ref v8, .ref v9, .ref v10, .ref v11, .ref v12, .ref v13, .int gl, .ref v15])), (v11, .inl (g.2.1 1, 42, .inl ((F_X10_appendToCard cd cl (tN y) z).2.1))), (v12, .inl (g.2.1 1, 7, .inl ((F_X10_appendToCard cd cl (tN y) z).2.2)))]) X hQ hr (hW) [0, 1, 2, 3, 4] rfl rfl (⟨(congrArg Prod.fst hF).symm, by rw [hF]⟩) ⟨Nat.le_of_ble_eq_true rfl, Nat.le_of_ble_eq_true rfl⟩ dX11_card_31
  · refine lv_iconst (v := (-1)) (pc := 22) hx hb dX11_card_22 (by decide) ?_
    have hF : F_X11_card1 pe cd cl y z = ((-1 : Int32), cd, cl) := show F_X11_card1 pe cd cl y z = ((-1 : Int32), cd, cl) from by rw [F_X11_card1, if_pos c3]
    exact e_i (u := [(h0, .inr (11, [.ref a0, .ref a1, .ref a2, .ref a3, .ref a4, .ref a5, .ref a6, .ref a7, .ref a8, .ref a9, .ref a10, .int (nI nv), .int (nI np), .int cc])), (a1, .inl (g.2.1 4, 10, .inr (.inr (.inr (.inr fA))))), (v, .inr (10, [.int (nI pe), .int lc, .int de, .ref v3, .ref v4, .ref v5, .ref v6, .ref v7, .ref v8, .ref v9, .ref v10, .ref v11, .ref v12, .ref v13, .int gl, .ref v15])), (v11, .inl (g.2.1 1, 42, .inl cd)), (v12, .inl (g.2.1 1, 7, .inl cl))]) X hQ hr (hW) [2, 3, 4, 0, 1] rfl rfl (⟨(congrArg Prod.fst hF).symm, by rw [hF]⟩) ⟨Nat.le_of_ble_eq_true rfl, Nat.le_of_ble_eq_true rfl⟩ dX11_card_23

def F_X11_blank0  : Int32 := (0 : Int32)
set_option maxHeartbeats 4000000 in
set_option maxRecDepth 100000 in
theorem K_X11_blank0 (l : Launch) (g : GG) (h0 : Nat) (a0 : Nat) (a1 : Nat) (a2 : Nat) (a3 : Nat) (a4 : Nat) (a5 : Nat) (a6 : Nat) (a7 : Nat) (a8 : Nat) (a9 : Nat) (a10 : Nat) (nv : Nat) (np : Nat) (cc : Int32) (fA : Nat → Option Nat) (x : Int32) (hbad : x < 0 ∨ nI nv ≤ x) : MetI l g yX11_blank cX11_blank 3 (some .boolean) 1 0 0 [.ref h0, .int x] [(h0, .inr (11, [.ref a0, .ref a1, .ref a2, .ref a3, .ref a4, .ref a5, .ref a6, .ref a7, .ref a8, .ref a9, .ref a10, .int (nI nv), .int (nI np), .int cc])), (a1, .inl (g.2.1 4, 10, .inr (.inr (.inr (.inr fA)))))] (fun r u => r = F_X11_blank0 ∧ u = [(h0, .inr (11, [.ref a0, .ref a1, .ref a2, .ref a3, .ref a4, .ref a5, .ref a6, .ref a7, .ref a8, .ref a9, .ref a10, .int (nI nv), .int (nI np), .int cc])), (a1, .inl (g.2.1 4, 10, .inr (.inr (.inr (.inr fA)))))]) := by
  refine MetI.of (own := RX11) rfl (by decide) (Nat.le_of_ble_eq_true rfl) ?_
  intro p e s m below meth c A ls args Q hQ X hr hin hW hl
  have hx := X.1
  have hb := X.2.1
  have hl : lv_has ls 3 [(0, .ref h0), (1, .int x)] := hl
  refine lv_aload_n (pc := 0) hx hb dX11_blank_0 rfl (lv_at hl 0 rfl) ?_
  refine lv_iload_n (pc := 1) hx hb dX11_blank_1 rfl (lv_at hl 1 rfl) ?_
  refine c_Vq (pc := 2) (As := [.int x]) (rest := []) (wr := []) X hW 0 ciX11 rfl (C_X11_valleyAt0 l g h0 a0 a1 a2 a3 a4 a5 a6 a7 a8 a9 a10 nv np cc fA x hbad) vX11_101 [0, 1] [] rfl rfl rfl rfl rfl rfl hl.1 rfl (Nat.le_of_ble_eq_true rfl) ⟨Nat.le_of_ble_eq_true rfl, Nat.le_of_ble_eq_true rfl⟩ ⟨Nat.le_of_ble_eq_true rfl, Nat.le_of_ble_eq_true rfl⟩ dX11_blank_2 (fun r1 u9 H locs hq hW => ?_)
  obtain ⟨rfl, rfl⟩ := hq
  have hW : WD g A s _ _ [(h0, .inr (11, [.ref a0, .ref a1, .ref a2, .ref a3, .ref a4, .ref a5, .ref a6, .ref a7, .ref a8, .ref a9, .ref a10, .int (nI nv), .int (nI np), .int cc])), (a1, .inl (g.2.1 4, 10, .inr (.inr (.inr (.inr fA)))))] := hW
  refine lv_astore_nN (lv' := [(2, .null), (0, .ref h0), (1, .int x)]) (pc := 5) hx hb dX11_blank_5 rfl hl (by decide) rfl (fun ls hl => ?_)
  refine lv_aload_nN (pc := 6) hx hb dX11_blank_6 rfl (lv_at hl 0 rfl) ?_
  refine lv_ifnonnullN (pc := 7) hx hb dX11_blank_7 ?_
  refine lv_iconst (v := 0) (pc := 10) hx hb dX11_blank_10 (by decide) ?_
  have hF : F_X11_blank0 = (0 : Int32) := show F_X11_blank0 = (0 : Int32) from rfl
  exact e_z (u := [(h0, .inr (11, [.ref a0, .ref a1, .ref a2, .ref a3, .ref a4, .ref a5, .ref a6, .ref a7, .ref a8, .ref a9, .ref a10, .int (nI nv), .int (nI np), .int cc])), (a1, .inl (g.2.1 4, 10, .inr (.inr (.inr (.inr fA)))))]) X hQ hr (hW) rfl [0, 1] rfl rfl (⟨hF.symm, rfl⟩) ⟨Nat.le_of_ble_eq_true rfl, Nat.le_of_ble_eq_true rfl⟩ dX11_blank_11

def F_X11_blank1  : Int32 × (Nat → Int32) := ((1 : Int32), (F_X10_emptyCards))
set_option maxHeartbeats 4000000 in
set_option maxRecDepth 100000 in
theorem K_X11_blank1 (l : Launch) (g : GG) (h0 : Nat) (a0 : Nat) (a1 : Nat) (a2 : Nat) (a3 : Nat) (a4 : Nat) (a5 : Nat) (a6 : Nat) (a7 : Nat) (a8 : Nat) (a9 : Nat) (a10 : Nat) (nv : Nat) (np : Nat) (cc : Int32) (fA : Nat → Option Nat) (i : Nat) (v : Nat) (v3 : Nat) (v4 : Nat) (v5 : Nat) (v6 : Nat) (v7 : Nat) (v8 : Nat) (v9 : Nat) (v10 : Nat) (v11 : Nat) (v12 : Nat) (v13 : Nat) (v15 : Nat) (pe : Int32) (lc : Int32) (de : Int32) (gl : Int32) (cl : Nat → Int32) (hi : i < nv) (hn : nv ≤ 10) (hA : fA i = some v) : MetI l g yX11_blank cX11_blank 3 (some .boolean) 2 0 0 [.ref h0, .int (nI i)] [(h0, .inr (11, [.ref a0, .ref a1, .ref a2, .ref a3, .ref a4, .ref a5, .ref a6, .ref a7, .ref a8, .ref a9, .ref a10, .int (nI nv), .int (nI np), .int cc])), (a1, .inl (g.2.1 4, 10, .inr (.inr (.inr (.inr fA))))), (v, .inr (10, [.int pe, .int lc, .int de, .ref v3, .ref v4, .ref v5, .ref v6, .ref v7, .ref v8, .ref v9, .ref v10, .ref v11, .ref v12, .ref v13, .int gl, .ref v15])), (v12, .inl (g.2.1 1, 7, .inl cl))] (fun r u => r = (F_X11_blank1).1 ∧ u = [(h0, .inr (11, [.ref a0, .ref a1, .ref a2, .ref a3, .ref a4, .ref a5, .ref a6, .ref a7, .ref a8, .ref a9, .ref a10, .int (nI nv), .int (nI np), .int cc])), (a1, .inl (g.2.1 4, 10, .inr (.inr (.inr (.inr fA))))), (v, .inr (10, [.int pe, .int lc, .int de, .ref v3, .ref v4, .ref v5, .ref v6, .ref v7, .ref v8, .ref v9, .ref v10, .ref v11, .ref v12, .ref v13, .int gl, .ref v15])), (v12, .inl (g.2.1 1, 7, .inl ((F_X11_blank1).2)))]) := by
  refine MetI.of (own := RX11) rfl (by decide) (Nat.le_of_ble_eq_true rfl) ?_
  intro p e s m below meth c A ls args Q hQ X hr hin hW hl
  have hx := X.1
  have hb := X.2.1
  have hl : lv_has ls 3 [(0, .ref h0), (1, .int (nI i))] := hl
  refine lv_aload_n (pc := 0) hx hb dX11_blank_0 rfl (lv_at hl 0 rfl) ?_
  refine lv_iload_n (pc := 1) hx hb dX11_blank_1 rfl (lv_at hl 1 rfl) ?_
  refine c_Vq (pc := 2) (As := [.int (nI i)]) (rest := []) (wr := [(v, .inr (10, [.int pe, .int lc, .int de, .ref v3, .ref v4, .ref v5, .ref v6, .ref v7, .ref v8, .ref v9, .ref v10, .ref v11, .ref v12, .ref v13, .int gl, .ref v15])), (v12, .inl (g.2.1 1, 7, .inl cl))]) X hW 0 ciX11 rfl (C_X11_valleyAt1 l g h0 a0 a1 a2 a3 a4 a5 a6 a7 a8 a9 a10 nv np cc fA i v (by omega) (by omega) hA) vX11_101 [0, 1] [2, 3] rfl rfl rfl rfl rfl rfl hl.1 rfl (Nat.le_of_ble_eq_true rfl) ⟨Nat.le_of_ble_eq_true rfl, Nat.le_of_ble_eq_true rfl⟩ ⟨Nat.le_of_ble_eq_true rfl, Nat.le_of_ble_eq_true rfl⟩ dX11_blank_2 (fun r1 u9 H locs hq hW => ?_)
  obtain ⟨rfl, rfl⟩ := hq
  have hW : WD g A s _ _ [(v, .inr (10, [.int pe, .int lc, .int de, .ref v3, .ref v4, .ref v5, .ref v6, .ref v7, .ref v8, .ref v9, .ref v10, .ref v11, .ref v12, .ref v13, .int gl, .ref v15])), (v12, .inl (g.2.1 1, 7, .inl cl)), (h0, .inr (11, [.ref a0, .ref a1, .ref a2, .ref a3, .ref a4, .ref a5, .ref a6, .ref a7, .ref a8, .ref a9, .ref a10, .int (nI nv), .int (nI np), .int cc])), (a1, .inl (g.2.1 4, 10, .inr (.inr (.inr (.inr fA)))))] := hW
  refine lv_astore_n (lv' := [(2, .ref v), (0, .ref h0), (1, .int (nI i))]) (pc := 5) hx hb dX11_blank_5 rfl hl (by decide) rfl (fun ls hl => ?_)
  refine lv_aload_n (pc := 6) hx hb dX11_blank_6 rfl (lv_at hl 0 rfl) ?_
  refine lv_ifnonnull (tgt := 12) (pc := 7) hx hb dX11_blank_7 rfl ?_
  refine lv_aload_n (pc := 12) hx hb dX11_blank_12 rfl (lv_at hl 0 rfl) ?_
  refine c_Vv (pc := 13) (As := []) (rest := []) (wr := [(h0, .inr (11, [.ref a0, .ref a1, .ref a2, .ref a3, .ref a4, .ref a5, .ref a6, .ref a7, .ref a8, .ref a9, .ref a10, .int (nI nv), .int (nI np), .int cc])), (a1, .inl (g.2.1 4, 10, .inr (.inr (.inr (.inr fA)))))]) X hW 0 ciX10 rfl (K_X10_emptyCards l g v v3 v4 v5 v6 v7 v8 v9 v10 v11 v12 v13 v15 pe lc de gl cl) vX11_273 [0, 1] [2, 3] rfl rfl rfl rfl rfl rfl hl.1 rfl (Nat.le_of_ble_eq_true rfl) ⟨Nat.le_of_ble_eq_true rfl, Nat.le_of_ble_eq_true rfl⟩ ⟨Nat.le_of_ble_eq_true rfl, Nat.le_of_ble_eq_true rfl⟩ dX11_blank_13 (fun u9 H locs hq hW => ?_)
  obtain rfl := hq
  have hW : WD g A s _ _ [(h0, .inr (11, [.ref a0, .ref a1, .ref a2, .ref a3, .ref a4, .ref a5, .ref a6, .ref a7, .ref a8, .ref a9, .ref a10, .int (nI nv), .int (nI np), .int cc])), (a1, .inl (g.2.1 4, 10, .inr (.inr (.inr (.inr fA))))), (v, .inr (10, [.int pe, .int lc, .int de, .ref v3, .ref v4, .ref v5, .ref v6, .ref v7, .ref v8, .ref v9, .ref v10, .ref v11, .ref v12, .ref v13, .int gl, .ref v15])), (v12, .inl (g.2.1 1, 7, .inl (F_X10_emptyCards)))] := hW
  refine lv_iconst (v := 1) (pc := 16) hx hb dX11_blank_16 (by decide) ?_
  have hF : F_X11_blank1 = ((1 : Int32), (F_X10_emptyCards)) := show F_X11_blank1 = ((1 : Int32), (F_X10_emptyCards)) from rfl
  exact e_z (u := [(h0, .inr (11, [.ref a0, .ref a1, .ref a2, .ref a3, .ref a4, .ref a5, .ref a6, .ref a7, .ref a8, .ref a9, .ref a10, .int (nI nv), .int (nI np), .int cc])), (a1, .inl (g.2.1 4, 10, .inr (.inr (.inr (.inr fA))))), (v, .inr (10, [.int pe, .int lc, .int de, .ref v3, .ref v4, .ref v5, .ref v6, .ref v7, .ref v8, .ref v9, .ref v10, .ref v11, .ref v12, .ref v13, .int gl, .ref v15])), (v12, .inl (g.2.1 1, 7, .inl (F_X10_emptyCards)))]) X hQ hr (hW) rfl [0, 1, 2, 3] rfl rfl (⟨(congrArg Prod.fst hF).symm, by rw [hF]⟩) ⟨Nat.le_of_ble_eq_true rfl, Nat.le_of_ble_eq_true rfl⟩ dX11_blank_17

def F_X11_tale0  : Int32 := (0 : Int32)
set_option maxHeartbeats 4000000 in
set_option maxRecDepth 100000 in
theorem K_X11_tale0 (l : Launch) (g : GG) (h0 : Nat) (a0 : Nat) (a1 : Nat) (a2 : Nat) (a3 : Nat) (a4 : Nat) (a5 : Nat) (a6 : Nat) (a7 : Nat) (a8 : Nat) (a9 : Nat) (a10 : Nat) (nv : Nat) (np : Nat) (cc : Int32) (fA : Nat → Option Nat) (x : Int32) (y : Int32) (z : Int32) (t : Int32) (hbad : x < 0 ∨ nI nv ≤ x) : MetI l g yX11_tale cX11_tale 6 (some .boolean) 1 0 0 [.ref h0, .int x, .int y, .int z, .int t] [(h0, .inr (11, [.ref a0, .ref a1, .ref a2, .ref a3, .ref a4, .ref a5, .ref a6, .ref a7, .ref a8, .ref a9, .ref a10, .int (nI nv), .int (nI np), .int cc])), (a1, .inl (g.2.1 4, 10, .inr (.inr (.inr (.inr fA)))))] (fun r u => r = F_X11_tale0 ∧ u = [(h0, .inr (11, [.ref a0, .ref a1, .ref a2, .ref a3, .ref a4, .ref a5, .ref a6, .ref a7, .ref a8, .ref a9, .ref a10, .int (nI nv), .int (nI np), .int cc])), (a1, .inl (g.2.1 4, 10, .inr (.inr (.inr (.inr fA)))))]) := by
  refine MetI.of (own := RX11) rfl (by decide) (Nat.le_of_ble_eq_true rfl) ?_
  intro p e s m below meth c A ls args Q hQ X hr hin hW hl
  have hx := X.1
  have hb := X.2.1
  have hl : lv_has ls 6 [(0, .ref h0), (1, .int x), (2, .int y), (3, .int z), (4, .int t)] := hl
  refine lv_aload_n (pc := 0) hx hb dX11_tale_0 rfl (lv_at hl 0 rfl) ?_
  refine lv_iload_n (pc := 1) hx hb dX11_tale_1 rfl (lv_at hl 1 rfl) ?_
  refine c_Vq (pc := 2) (As := [.int x]) (rest := []) (wr := []) X hW 0 ciX11 rfl (C_X11_valleyAt0 l g h0 a0 a1 a2 a3 a4 a5 a6 a7 a8 a9 a10 nv np cc fA x hbad) vX11_101 [0, 1] [] rfl rfl rfl rfl rfl rfl hl.1 rfl (Nat.le_of_ble_eq_true rfl) ⟨Nat.le_of_ble_eq_true rfl, Nat.le_of_ble_eq_true rfl⟩ ⟨Nat.le_of_ble_eq_true rfl, Nat.le_of_ble_eq_true rfl⟩ dX11_tale_2 (fun r1 u9 H locs hq hW => ?_)
  obtain ⟨rfl, rfl⟩ := hq
  have hW : WD g A s _ _ [(h0, .inr (11, [.ref a0, .ref a1, .ref a2, .ref a3, .ref a4, .ref a5, .ref a6, .ref a7, .ref a8, .ref a9, .ref a10, .int (nI nv), .int (nI np), .int cc])), (a1, .inl (g.2.1 4, 10, .inr (.inr (.inr (.inr fA)))))] := hW
  refine lv_astoreN (lv' := [(5, .null), (0, .ref h0), (1, .int x), (2, .int y), (3, .int z), (4, .int t)]) (pc := 5) hx hb dX11_tale_5 hl (by decide) rfl (fun ls hl => ?_)
  refine lv_aloadN (pc := 7) hx hb dX11_tale_7 (lv_at hl 0 rfl) ?_
  refine lv_ifnullN (tgt := 42) (pc := 9) hx hb dX11_tale_9 rfl ?_
  refine lv_iconst (v := 0) (pc := 42) hx hb dX11_tale_42 (by decide) ?_
  have hF : F_X11_tale0 = (0 : Int32) := show F_X11_tale0 = (0 : Int32) from rfl
  exact e_z (u := [(h0, .inr (11, [.ref a0, .ref a1, .ref a2, .ref a3, .ref a4, .ref a5, .ref a6, .ref a7, .ref a8, .ref a9, .ref a10, .int (nI nv), .int (nI np), .int cc])), (a1, .inl (g.2.1 4, 10, .inr (.inr (.inr (.inr fA)))))]) X hQ hr (hW) rfl [0, 1] rfl rfl (⟨hF.symm, rfl⟩) ⟨Nat.le_of_ble_eq_true rfl, Nat.le_of_ble_eq_true rfl⟩ dX11_tale_43

def F_X11_tale1 (pe : Nat) (ta : Nat → Int32) (y : Int32) (z : Int32) (t : Int32) : Int32 × (Nat → Int32) := if F_X11_isNews y = 0 then (((0 : Int32), ta)) else (if F_X10_hasPerson (nI pe) z = 0 then (((0 : Int32), ta)) else (if t = (-1) then (((1 : Int32), (F_X10_setTale ta (tN y) (tN z) t))) else (if F_X11_isHourOrFirst t = 0 then (((0 : Int32), ta)) else (((1 : Int32), (F_X10_setTale ta (tN y) (tN z) t))))))
set_option maxHeartbeats 4000000 in
set_option maxRecDepth 100000 in
theorem K_X11_tale1 (l : Launch) (g : GG) (h0 : Nat) (a0 : Nat) (a1 : Nat) (a2 : Nat) (a3 : Nat) (a4 : Nat) (a5 : Nat) (a6 : Nat) (a7 : Nat) (a8 : Nat) (a9 : Nat) (a10 : Nat) (nv : Nat) (np : Nat) (cc : Int32) (fA : Nat → Option Nat) (i : Nat) (v : Nat) (v3 : Nat) (v4 : Nat) (v5 : Nat) (v6 : Nat) (v7 : Nat) (v8 : Nat) (v9 : Nat) (v10 : Nat) (v11 : Nat) (v12 : Nat) (v13 : Nat) (v15 : Nat) (pe : Nat) (lc : Int32) (de : Int32) (gl : Int32) (ta : Nat → Int32) (y : Int32) (z : Int32) (t : Int32) (hi : i < nv) (hn : nv ≤ 10) (hA : fA i = some v) (hpe : pe ≤ 7) : MetI l g yX11_tale cX11_tale 6 (some .boolean) 1 0 0 [.ref h0, .int (nI i), .int y, .int z, .int t] [(h0, .inr (11, [.ref a0, .ref a1, .ref a2, .ref a3, .ref a4, .ref a5, .ref a6, .ref a7, .ref a8, .ref a9, .ref a10, .int (nI nv), .int (nI np), .int cc])), (a1, .inl (g.2.1 4, 10, .inr (.inr (.inr (.inr fA))))), (v, .inr (10, [.int (nI pe), .int lc, .int de, .ref v3, .ref v4, .ref v5, .ref v6, .ref v7, .ref v8, .ref v9, .ref v10, .ref v11, .ref v12, .ref v13, .int gl, .ref v15])), (v13, .inl (g.2.1 1, 28, .inl ta))] (fun r u => r = (F_X11_tale1 pe ta y z t).1 ∧ u = [(h0, .inr (11, [.ref a0, .ref a1, .ref a2, .ref a3, .ref a4, .ref a5, .ref a6, .ref a7, .ref a8, .ref a9, .ref a10, .int (nI nv), .int (nI np), .int cc])), (a1, .inl (g.2.1 4, 10, .inr (.inr (.inr (.inr fA))))), (v, .inr (10, [.int (nI pe), .int lc, .int de, .ref v3, .ref v4, .ref v5, .ref v6, .ref v7, .ref v8, .ref v9, .ref v10, .ref v11, .ref v12, .ref v13, .int gl, .ref v15])), (v13, .inl (g.2.1 1, 28, .inl ((F_X11_tale1 pe ta y z t).2)))]) := by
  refine MetI.of (own := RX11) rfl (by decide) (Nat.le_of_ble_eq_true rfl) ?_
  intro p e s m below meth c A ls args Q hQ X hr hin hW hl
  have hx := X.1
  have hb := X.2.1
  have hl : lv_has ls 6 [(0, .ref h0), (1, .int (nI i)), (2, .int y), (3, .int z), (4, .int t)] := hl
  refine lv_aload_n (pc := 0) hx hb dX11_tale_0 rfl (lv_at hl 0 rfl) ?_
  refine lv_iload_n (pc := 1) hx hb dX11_tale_1 rfl (lv_at hl 1 rfl) ?_
  refine c_Vq (pc := 2) (As := [.int (nI i)]) (rest := []) (wr := [(v, .inr (10, [.int (nI pe), .int lc, .int de, .ref v3, .ref v4, .ref v5, .ref v6, .ref v7, .ref v8, .ref v9, .ref v10, .ref v11, .ref v12, .ref v13, .int gl, .ref v15])), (v13, .inl (g.2.1 1, 28, .inl ta))]) X hW 0 ciX11 rfl (C_X11_valleyAt1 l g h0 a0 a1 a2 a3 a4 a5 a6 a7 a8 a9 a10 nv np cc fA i v (by omega) (by omega) hA) vX11_101 [0, 1] [2, 3] rfl rfl rfl rfl rfl rfl hl.1 rfl (Nat.le_of_ble_eq_true rfl) ⟨Nat.le_of_ble_eq_true rfl, Nat.le_of_ble_eq_true rfl⟩ ⟨Nat.le_of_ble_eq_true rfl, Nat.le_of_ble_eq_true rfl⟩ dX11_tale_2 (fun r1 u9 H locs hq hW => ?_)
  obtain ⟨rfl, rfl⟩ := hq
  have hW : WD g A s _ _ [(v, .inr (10, [.int (nI pe), .int lc, .int de, .ref v3, .ref v4, .ref v5, .ref v6, .ref v7, .ref v8, .ref v9, .ref v10, .ref v11, .ref v12, .ref v13, .int gl, .ref v15])), (v13, .inl (g.2.1 1, 28, .inl ta)), (h0, .inr (11, [.ref a0, .ref a1, .ref a2, .ref a3, .ref a4, .ref a5, .ref a6, .ref a7, .ref a8, .ref a9, .ref a10, .int (nI nv), .int (nI np), .int cc])), (a1, .inl (g.2.1 4, 10, .inr (.inr (.inr (.inr fA)))))] := hW
  refine lv_astore (lv' := [(5, .ref v), (0, .ref h0), (1, .int (nI i)), (2, .int y), (3, .int z), (4, .int t)]) (pc := 5) hx hb dX11_tale_5 hl (by decide) rfl (fun ls hl => ?_)
  refine lv_aload (pc := 7) hx hb dX11_tale_7 (lv_at hl 0 rfl) ?_
  refine lv_ifnull (pc := 9) hx hb dX11_tale_9 ?_
  refine lv_iload_n (pc := 12) hx hb dX11_tale_12 rfl (lv_at hl 3 rfl) ?_
  refine c_Si (pc := 13) (As := [.int y]) (rest := []) (wr := [(v, .inr (10, [.int (nI pe), .int lc, .int de, .ref v3, .ref v4, .ref v5, .ref v6, .ref v7, .ref v8, .ref v9, .ref v10, .ref v11, .ref v12, .ref v13, .int gl, .ref v15])), (v13, .inl (g.2.1 1, 28, .inl ta)), (h0, .inr (11, [.ref a0, .ref a1, .ref a2, .ref a3, .ref a4, .ref a5, .ref a6, .ref a7, .ref a8, .ref a9, .ref a10, .int (nI nv), .int (nI np), .int cc])), (a1, .inl (g.2.1 4, 10, .inr (.inr (.inr (.inr fA)))))]) X hW (K_X11_isNews l g y) vX11_208 [] [0, 1, 2, 3] rfl rfl rfl rfl rfl rfl hl.1 rfl (Nat.le_of_ble_eq_true rfl) ⟨Nat.le_of_ble_eq_true rfl, Nat.le_of_ble_eq_true rfl⟩ ⟨Nat.le_of_ble_eq_true rfl, Nat.le_of_ble_eq_true rfl⟩ dX11_tale_13 (fun r2 u9 H locs hq hW => ?_)
  obtain ⟨rfl, rfl⟩ := hq
  have hW : WD g A s _ _ [(v, .inr (10, [.int (nI pe), .int lc, .int de, .ref v3, .ref v4, .ref v5, .ref v6, .ref v7, .ref v8, .ref v9, .ref v10, .ref v11, .ref v12, .ref v13, .int gl, .ref v15])), (v13, .inl (g.2.1 1, 28, .inl ta)), (h0, .inr (11, [.ref a0, .ref a1, .ref a2, .ref a3, .ref a4, .ref a5, .ref a6, .ref a7, .ref a8, .ref a9, .ref a10, .int (nI nv), .int (nI np), .int cc])), (a1, .inl (g.2.1 4, 10, .inr (.inr (.inr (.inr fA)))))] := hW
  refine lv_if_eq (tgt := 42) (pc := 16) hx hb dX11_tale_16 rfl (fun c3 => ?_) (fun c3 => ?_)
  · refine lv_iconst (v := 0) (pc := 42) hx hb dX11_tale_42 (by decide) ?_
    have hF : F_X11_tale1 pe ta y z t = ((0 : Int32), ta) := show F_X11_tale1 pe ta y z t = ((0 : Int32), ta) from by rw [F_X11_tale1, if_pos c3]
    exact e_z (u := [(h0, .inr (11, [.ref a0, .ref a1, .ref a2, .ref a3, .ref a4, .ref a5, .ref a6, .ref a7, .ref a8, .ref a9, .ref a10, .int (nI nv), .int (nI np), .int cc])), (a1, .inl (g.2.1 4, 10, .inr (.inr (.inr (.inr fA))))), (v, .inr (10, [.int (nI pe), .int lc, .int de, .ref v3, .ref v4, .ref v5, .ref v6, .ref v7, .ref v8, .ref v9, .ref v10, .ref v11, .ref v12, .ref v13, .int gl, .ref v15])), (v13, .inl (g.2.1 1, 28, .inl ta))]) X hQ hr (hW) rfl [2, 3, 0, 1] rfl rfl (⟨(congrArg Prod.fst hF).symm, by rw [hF]⟩) ⟨Nat.le_of_ble_eq_true rfl, Nat.le_of_ble_eq_true rfl⟩ dX11_tale_43
  · have q19 := c3
    refine lv_aload (pc := 19) hx hb dX11_tale_19 (lv_at hl 0 rfl) ?_
    refine lv_iload_n (pc := 21) hx hb dX11_tale_21 rfl (lv_at hl 4 rfl) ?_
    refine c_Vi (pc := 22) (As := [.int z]) (rest := []) (wr := [(v13, .inl (g.2.1 1, 28, .inl ta)), (h0, .inr (11, [.ref a0, .ref a1, .ref a2, .ref a3, .ref a4, .ref a5, .ref a6, .ref a7, .ref a8, .ref a9, .ref a10, .int (nI nv), .int (nI np), .int cc])), (a1, .inl (g.2.1 4, 10, .inr (.inr (.inr (.inr fA)))))]) X hW 0 ciX10 rfl (K_X10_hasPerson l g v v3 v4 v5 v6 v7 v8 v9 v10 v11 v12 v13 v15 (nI pe) lc de gl z) vX11_168 [0] [1, 2, 3] rfl rfl rfl rfl rfl rfl hl.1 rfl (Nat.le_of_ble_eq_true rfl) ⟨Nat.le_of_ble_eq_true rfl, Nat.le_of_ble_eq_true rfl⟩ ⟨Nat.le_of_ble_eq_true rfl, Nat.le_of_ble_eq_true rfl⟩ dX11_tale_22 (fun r6 u9 H locs hq hW => ?_)
    obtain ⟨rfl, rfl⟩ := hq
    have hW : WD g A s _ _ [(v13, .inl (g.2.1 1, 28, .inl ta)), (h0, .inr (11, [.ref a0, .ref a1, .ref a2, .ref a3, .ref a4, .ref a5, .ref a6, .ref a7, .ref a8, .ref a9, .ref a10, .int (nI nv), .int (nI np), .int cc])), (a1, .inl (g.2.1 4, 10, .inr (.inr (.inr (.inr fA))))), (v, .inr (10, [.int (nI pe), .int lc, .int de, .ref v3, .ref v4, .ref v5, .ref v6, .ref v7, .ref v8, .ref v9, .ref v10, .ref v11, .ref v12, .ref v13, .int gl, .ref v15]))] := hW
    refine lv_if_eq (tgt := 42) (pc := 25) hx hb dX11_tale_25 rfl (fun c7 => ?_) (fun c7 => ?_)
    · refine lv_iconst (v := 0) (pc := 42) hx hb dX11_tale_42 (by decide) ?_
      have hF : F_X11_tale1 pe ta y z t = ((0 : Int32), ta) := show F_X11_tale1 pe ta y z t = ((0 : Int32), ta) from by rw [F_X11_tale1, if_neg c3, if_pos c7]
      exact e_z (u := [(h0, .inr (11, [.ref a0, .ref a1, .ref a2, .ref a3, .ref a4, .ref a5, .ref a6, .ref a7, .ref a8, .ref a9, .ref a10, .int (nI nv), .int (nI np), .int cc])), (a1, .inl (g.2.1 4, 10, .inr (.inr (.inr (.inr fA))))), (v, .inr (10, [.int (nI pe), .int lc, .int de, .ref v3, .ref v4, .ref v5, .ref v6, .ref v7, .ref v8, .ref v9, .ref v10, .ref v11, .ref v12, .ref v13, .int gl, .ref v15])), (v13, .inl (g.2.1 1, 28, .inl ta))]) X hQ hr (hW) rfl [1, 2, 3, 0] rfl rfl (⟨(congrArg Prod.fst hF).symm, by rw [hF]⟩) ⟨Nat.le_of_ble_eq_true rfl, Nat.le_of_ble_eq_true rfl⟩ dX11_tale_43
    · have q28 := c7
      refine lv_iload (pc := 28) hx hb dX11_tale_28 (lv_at hl 5 rfl) ?_
      refine lv_iconst (v := (-1)) (pc := 30) hx hb dX11_tale_30 (by decide) ?_
      refine lv_icmp_eq (tgt := 44) (pc := 31) hx hb dX11_tale_31 rfl (fun c10 => ?_) (fun c10 => ?_)
      · have hnw := hn_at q19
        have hnw2 := hnw.2
        have hpp := hp_at (n := pe) (by omega) q28
        have hpp2 := hpp.2
        rw [hnw.1] at hl
        rw [hpp.1] at hl
        refine lv_aload (pc := 44) hx hb dX11_tale_44 (lv_at hl 0 rfl) ?_
        refine lv_iload_n (pc := 46) hx hb dX11_tale_46 rfl (lv_at hl 3 rfl) ?_
        refine lv_iload_n (pc := 47) hx hb dX11_tale_47 rfl (lv_at hl 4 rfl) ?_
        refine lv_iload (pc := 48) hx hb dX11_tale_48 (lv_at hl 5 rfl) ?_
        refine c_Vv (pc := 50) (As := [.int (nI (tN y)), .int (nI (tN z)), .int t]) (rest := []) (wr := [(h0, .inr (11, [.ref a0, .ref a1, .ref a2, .ref a3, .ref a4, .ref a5, .ref a6, .ref a7, .ref a8, .ref a9, .ref a10, .int (nI nv), .int (nI np), .int cc])), (a1, .inl (g.2.1 4, 10, .inr (.inr (.inr (.inr fA)))))]) X hW 3 ciX10 rfl (K_X10_setTale l g v v3 v4 v5 v6 v7 v8 v9 v10 v11 v12 v13 v15 (nI pe) lc de gl ta (tN y) (tN z) t (by omega) (by omega)) vX11_308 [3, 0] [1, 2] rfl rfl rfl rfl rfl rfl hl.1 rfl (Nat.le_of_ble_eq_true rfl) ⟨Nat.le_of_ble_eq_true rfl, Nat.le_of_ble_eq_true rfl⟩ ⟨Nat.le_of_ble_eq_true rfl, Nat.le_of_ble_eq_true rfl⟩ dX11_tale_50 (fun u9 H locs hq hW => ?_)
        obtain rfl := hq
        have hW : WD g A s _ _ [(h0, .inr (11, [.ref a0, .ref a1, .ref a2, .ref a3, .ref a4, .ref a5, .ref a6, .ref a7, .ref a8, .ref a9, .ref a10, .int (nI nv), .int (nI np), .int cc])), (a1, .inl (g.2.1 4, 10, .inr (.inr (.inr (.inr fA))))), (v, .inr (10, [.int (nI pe), .int lc, .int de, .ref v3, .ref v4, .ref v5, .ref v6, .ref v7, .ref v8, .ref v9, .ref v10, .ref v11, .ref v12, .ref v13, .int gl, .ref v15])), (v13, .inl (g.2.1 1, 28, .inl (F_X10_setTale ta (tN y) (tN z) t)))] := hW
        refine lv_iconst (v := 1) (pc := 53) hx hb dX11_tale_53 (by decide) ?_
        have hF : F_X11_tale1 pe ta y z t = ((1 : Int32), (F_X10_setTale ta (tN y) (tN z) t)) := show F_X11_tale1 pe ta y z t = ((1 : Int32), (F_X10_setTale ta (tN y) (tN z) t)) from by rw [F_X11_tale1, if_neg c3, if_neg c7, if_pos c10]
        exact e_z (u := [(h0, .inr (11, [.ref a0, .ref a1, .ref a2, .ref a3, .ref a4, .ref a5, .ref a6, .ref a7, .ref a8, .ref a9, .ref a10, .int (nI nv), .int (nI np), .int cc])), (a1, .inl (g.2.1 4, 10, .inr (.inr (.inr (.inr fA))))), (v, .inr (10, [.int (nI pe), .int lc, .int de, .ref v3, .ref v4, .ref v5, .ref v6, .ref v7, .ref v8, .ref v9, .ref v10, .ref v11, .ref v12, .ref v13, .int gl, .ref v15])), (v13, .inl (g.2.1 1, 28, .inl (F_X10_setTale ta (tN y) (tN z) t)))]) X hQ hr (hW) rfl [0, 1, 2, 3] rfl rfl (⟨(congrArg Prod.fst hF).symm, by rw [hF]⟩) ⟨Nat.le_of_ble_eq_true rfl, Nat.le_of_ble_eq_true rfl⟩ dX11_tale_54
      · refine lv_iload (pc := 34) hx hb dX11_tale_34 (lv_at hl 5 rfl) ?_
        refine c_Si (pc := 36) (As := [.int t]) (rest := []) (wr := [(v13, .inl (g.2.1 1, 28, .inl ta)), (h0, .inr (11, [.ref a0, .ref a1, .ref a2, .ref a3, .ref a4, .ref a5, .ref a6, .ref a7, .ref a8, .ref a9, .ref a10, .int (nI nv), .int (nI np), .int cc])), (a1, .inl (g.2.1 4, 10, .inr (.inr (.inr (.inr fA))))), (v, .inr (10, [.int (nI pe), .int lc, .int de, .ref v3, .ref v4, .ref v5, .ref v6, .ref v7, .ref v8, .ref v9, .ref v10, .ref v11, .ref v12, .ref v13, .int gl, .ref v15]))]) X hW (K_X11_isHourOrFirst l g t) vX11_186 [] [0, 1, 2, 3] rfl rfl rfl rfl rfl rfl hl.1 rfl (Nat.le_of_ble_eq_true rfl) ⟨Nat.le_of_ble_eq_true rfl, Nat.le_of_ble_eq_true rfl⟩ ⟨Nat.le_of_ble_eq_true rfl, Nat.le_of_ble_eq_true rfl⟩ dX11_tale_36 (fun r13 u9 H locs hq hW => ?_)
        obtain ⟨rfl, rfl⟩ := hq
        have hW : WD g A s _ _ [(v13, .inl (g.2.1 1, 28, .inl ta)), (h0, .inr (11, [.ref a0, .ref a1, .ref a2, .ref a3, .ref a4, .ref a5, .ref a6, .ref a7, .ref a8, .ref a9, .ref a10, .int (nI nv), .int (nI np), .int cc])), (a1, .inl (g.2.1 4, 10, .inr (.inr (.inr (.inr fA))))), (v, .inr (10, [.int (nI pe), .int lc, .int de, .ref v3, .ref v4, .ref v5, .ref v6, .ref v7, .ref v8, .ref v9, .ref v10, .ref v11, .ref v12, .ref v13, .int gl, .ref v15]))] := hW
        refine lv_if_ne (tgt := 44) (pc := 39) hx hb dX11_tale_39 rfl (fun c14 => ?_) (fun c14 => ?_)
        · have hnw := hn_at q19
          have hnw2 := hnw.2
          have hpp := hp_at (n := pe) (by omega) q28
          have hpp2 := hpp.2
          rw [hnw.1] at hl
          rw [hpp.1] at hl
          refine lv_aload (pc := 44) hx hb dX11_tale_44 (lv_at hl 0 rfl) ?_
          refine lv_iload_n (pc := 46) hx hb dX11_tale_46 rfl (lv_at hl 3 rfl) ?_
          refine lv_iload_n (pc := 47) hx hb dX11_tale_47 rfl (lv_at hl 4 rfl) ?_
          refine lv_iload (pc := 48) hx hb dX11_tale_48 (lv_at hl 5 rfl) ?_
          refine c_Vv (pc := 50) (As := [.int (nI (tN y)), .int (nI (tN z)), .int t]) (rest := []) (wr := [(h0, .inr (11, [.ref a0, .ref a1, .ref a2, .ref a3, .ref a4, .ref a5, .ref a6, .ref a7, .ref a8, .ref a9, .ref a10, .int (nI nv), .int (nI np), .int cc])), (a1, .inl (g.2.1 4, 10, .inr (.inr (.inr (.inr fA)))))]) X hW 3 ciX10 rfl (K_X10_setTale l g v v3 v4 v5 v6 v7 v8 v9 v10 v11 v12 v13 v15 (nI pe) lc de gl ta (tN y) (tN z) t (by omega) (by omega)) vX11_308 [3, 0] [1, 2] rfl rfl rfl rfl rfl rfl hl.1 rfl (Nat.le_of_ble_eq_true rfl) ⟨Nat.le_of_ble_eq_true rfl, Nat.le_of_ble_eq_true rfl⟩ ⟨Nat.le_of_ble_eq_true rfl, Nat.le_of_ble_eq_true rfl⟩ dX11_tale_50 (fun u9 H locs hq hW => ?_)
          obtain rfl := hq
          have hW : WD g A s _ _ [(h0, .inr (11, [.ref a0, .ref a1, .ref a2, .ref a3, .ref a4, .ref a5, .ref a6, .ref a7, .ref a8, .ref a9, .ref a10, .int (nI nv), .int (nI np), .int cc])), (a1, .inl (g.2.1 4, 10, .inr (.inr (.inr (.inr fA))))), (v, .inr (10, [.int (nI pe), .int lc, .int de, .ref v3, .ref v4, .ref v5, .ref v6, .ref v7, .ref v8, .ref v9, .ref v10, .ref v11, .ref v12, .ref v13, .int gl, .ref v15])), (v13, .inl (g.2.1 1, 28, .inl (F_X10_setTale ta (tN y) (tN z) t)))] := hW
          refine lv_iconst (v := 1) (pc := 53) hx hb dX11_tale_53 (by decide) ?_
          have hF : F_X11_tale1 pe ta y z t = ((1 : Int32), (F_X10_setTale ta (tN y) (tN z) t)) := show F_X11_tale1 pe ta y z t = ((1 : Int32), (F_X10_setTale ta (tN y) (tN z) t)) from by rw [F_X11_tale1, if_neg c3, if_neg c7, if_neg c10, if_neg c14]
          exact e_z (u := [(h0, .inr (11, [.ref a0, .ref a1, .ref a2, .ref a3, .ref a4, .ref a5, .ref a6, .ref a7, .ref a8, .ref a9, .ref a10, .int (nI nv), .int (nI np), .int cc])), (a1, .inl (g.2.1 4, 10, .inr (.inr (.inr (.inr fA))))), (v, .inr (10, [.int (nI pe), .int lc, .int de, .ref v3, .ref v4, .ref v5, .ref v6, .ref v7, .ref v8, .ref v9, .ref v10, .ref v11, .ref v12, .ref v13, .int gl, .ref v15])), (v13, .inl (g.2.1 1, 28, .inl (F_X10_setTale ta (tN y) (tN z) t)))]) X hQ hr (hW) rfl [0, 1, 2, 3] rfl rfl (⟨(congrArg Prod.fst hF).symm, by rw [hF]⟩) ⟨Nat.le_of_ble_eq_true rfl, Nat.le_of_ble_eq_true rfl⟩ dX11_tale_54
        · refine lv_iconst (v := 0) (pc := 42) hx hb dX11_tale_42 (by decide) ?_
          have hF : F_X11_tale1 pe ta y z t = ((0 : Int32), ta) := show F_X11_tale1 pe ta y z t = ((0 : Int32), ta) from by rw [F_X11_tale1, if_neg c3, if_neg c7, if_neg c10, if_pos c14]
          exact e_z (u := [(h0, .inr (11, [.ref a0, .ref a1, .ref a2, .ref a3, .ref a4, .ref a5, .ref a6, .ref a7, .ref a8, .ref a9, .ref a10, .int (nI nv), .int (nI np), .int cc])), (a1, .inl (g.2.1 4, 10, .inr (.inr (.inr (.inr fA))))), (v, .inr (10, [.int (nI pe), .int lc, .int de, .ref v3, .ref v4, .ref v5, .ref v6, .ref v7, .ref v8, .ref v9, .ref v10, .ref v11, .ref v12, .ref v13, .int gl, .ref v15])), (v13, .inl (g.2.1 1, 28, .inl ta))]) X hQ hr (hW) rfl [1, 2, 3, 0] rfl rfl (⟨(congrArg Prod.fst hF).symm, by rw [hF]⟩) ⟨Nat.le_of_ble_eq_true rfl, Nat.le_of_ble_eq_true rfl⟩ dX11_tale_43

def F_X11_count (nv : Nat) (np : Nat) (cc : Int32) (n0 : Nat) (x : Int32) : Int32 := if x = 0 then (nI nv) else (if x = 1 then (nI np) else (if x = 2 then (cc) else (if x = 3 then (nI n0) else ((-1 : Int32)))))
set_option maxHeartbeats 4000000 in
set_option maxRecDepth 100000 in
theorem K_X11_count (l : Launch) (g : GG) (h0 : Nat) (a0 : Nat) (a1 : Nat) (a2 : Nat) (a3 : Nat) (a4 : Nat) (a5 : Nat) (a6 : Nat) (a7 : Nat) (a8 : Nat) (a9 : Nat) (a10 : Nat) (nv : Nat) (np : Nat) (cc : Int32) (tq : Nat) (n0 : Nat) (pl : Int32) (x : Int32)  : MetI l g yX11_count cX11_count 2 (some .int) 0 0 0 [.ref h0, .int x] [(h0, .inr (11, [.ref a0, .ref a1, .ref a2, .ref a3, .ref a4, .ref a5, .ref a6, .ref a7, .ref a8, .ref a9, .ref a10, .int (nI nv), .int (nI np), .int cc])), (a0, .inr (8, [.ref tq, .int (nI n0), .int pl]))] (fun r u => r = (F_X11_count nv np cc n0 x) ∧ u = [(h0, .inr (11, [.ref a0, .ref a1, .ref a2, .ref a3, .ref a4, .ref a5, .ref a6, .ref a7, .ref a8, .ref a9, .ref a10, .int (nI nv), .int (nI np), .int cc])), (a0, .inr (8, [.ref tq, .int (nI n0), .int pl]))]) := by
  refine MetI.of (own := RX11) rfl (by decide) (Nat.le_of_ble_eq_true rfl) ?_
  intro p e s m below meth c A ls args Q hQ X hr hin hW hl
  have hx := X.1
  have hb := X.2.1
  have hl : lv_has ls 2 [(0, .ref h0), (1, .int x)] := hl
  refine lv_iload_n (pc := 0) hx hb dX11_count_0 rfl (lv_at hl 1 rfl) ?_
  by_cases c1 : x = 0
  · rw [c1]
    refine lv_tableIn (pc := 1) (off := 31) (tgt := 32) hx hb dX11_count_1 (by decide) (by decide) rfl rfl ?_
    refine lv_aload_n (pc := 32) hx hb dX11_count_32 rfl (lv_at hl 0 rfl) ?_
    refine r_get X hW 0 ciX11 11 rfl (by decide) m_364 rfl rfl dX11_count_33 ?_
    have hF : F_X11_count nv np cc n0 x = nI nv := show F_X11_count nv np cc n0 x = nI nv from by rw [F_X11_count, if_pos c1]
    exact e_i (u := [(h0, .inr (11, [.ref a0, .ref a1, .ref a2, .ref a3, .ref a4, .ref a5, .ref a6, .ref a7, .ref a8, .ref a9, .ref a10, .int (nI nv), .int (nI np), .int cc])), (a0, .inr (8, [.ref tq, .int (nI n0), .int pl]))]) X hQ hr (hW) [0, 1] rfl rfl (⟨hF.symm, rfl⟩) ⟨Nat.le_of_ble_eq_true rfl, Nat.le_of_ble_eq_true rfl⟩ dX11_count_36
  · by_cases c2 : x = 1
    · rw [c2]
      refine lv_tableIn (pc := 1) (off := 36) (tgt := 37) hx hb dX11_count_1 (by decide) (by decide) rfl rfl ?_
      refine lv_aload_n (pc := 37) hx hb dX11_count_37 rfl (lv_at hl 0 rfl) ?_
      refine r_get X hW 0 ciX11 12 rfl (by decide) m_365 rfl rfl dX11_count_38 ?_
      have hF : F_X11_count nv np cc n0 x = nI np := show F_X11_count nv np cc n0 x = nI np from by rw [F_X11_count, if_neg c1, if_pos c2]
      exact e_i (u := [(h0, .inr (11, [.ref a0, .ref a1, .ref a2, .ref a3, .ref a4, .ref a5, .ref a6, .ref a7, .ref a8, .ref a9, .ref a10, .int (nI nv), .int (nI np), .int cc])), (a0, .inr (8, [.ref tq, .int (nI n0), .int pl]))]) X hQ hr (hW) [0, 1] rfl rfl (⟨hF.symm, rfl⟩) ⟨Nat.le_of_ble_eq_true rfl, Nat.le_of_ble_eq_true rfl⟩ dX11_count_41
    · by_cases c3 : x = 2
      · rw [c3]
        refine lv_tableIn (pc := 1) (off := 41) (tgt := 42) hx hb dX11_count_1 (by decide) (by decide) rfl rfl ?_
        refine lv_aload_n (pc := 42) hx hb dX11_count_42 rfl (lv_at hl 0 rfl) ?_
        refine r_get X hW 0 ciX11 13 rfl (by decide) m_366 rfl rfl dX11_count_43 ?_
        have hF : F_X11_count nv np cc n0 x = cc := show F_X11_count nv np cc n0 x = cc from by rw [F_X11_count, if_neg c1, if_neg c2, if_pos c3]
        exact e_i (u := [(h0, .inr (11, [.ref a0, .ref a1, .ref a2, .ref a3, .ref a4, .ref a5, .ref a6, .ref a7, .ref a8, .ref a9, .ref a10, .int (nI nv), .int (nI np), .int cc])), (a0, .inr (8, [.ref tq, .int (nI n0), .int pl]))]) X hQ hr (hW) [0, 1] rfl rfl (⟨hF.symm, rfl⟩) ⟨Nat.le_of_ble_eq_true rfl, Nat.le_of_ble_eq_true rfl⟩ dX11_count_46
      · by_cases c4 : x = 3
        · rw [c4]
          refine lv_tableIn (pc := 1) (off := 46) (tgt := 47) hx hb dX11_count_1 (by decide) (by decide) rfl rfl ?_
          refine lv_aload_n (pc := 47) hx hb dX11_count_47 rfl (lv_at hl 0 rfl) ?_
          refine r_get X hW 0 ciX11 0 rfl (by decide) m_353 rfl rfl dX11_count_48 ?_
          refine r_getN X hW 1 ciX8 1 rfl (by decide) m_38 rfl rfl dX11_count_51 ?_
          have hF : F_X11_count nv np cc n0 x = nI n0 := show F_X11_count nv np cc n0 x = nI n0 from by rw [F_X11_count, if_neg c1, if_neg c2, if_neg c3, if_pos c4]
          exact e_i (u := [(h0, .inr (11, [.ref a0, .ref a1, .ref a2, .ref a3, .ref a4, .ref a5, .ref a6, .ref a7, .ref a8, .ref a9, .ref a10, .int (nI nv), .int (nI np), .int cc])), (a0, .inr (8, [.ref tq, .int (nI n0), .int pl]))]) X hQ hr (hW) [0, 1] rfl rfl (⟨hF.symm, rfl⟩) ⟨Nat.le_of_ble_eq_true rfl, Nat.le_of_ble_eq_true rfl⟩ dX11_count_54
        · refine lv_tableOut (pc := 1) (tgt := 55) hx hb dX11_count_1 (tab_out4 c1 c2 c3 c4) rfl ?_
          refine lv_iconst (v := (-1)) (pc := 55) hx hb dX11_count_55 (by decide) ?_
          have hF : F_X11_count nv np cc n0 x = (-1 : Int32) := show F_X11_count nv np cc n0 x = (-1 : Int32) from by rw [F_X11_count, if_neg c1, if_neg c2, if_neg c3, if_neg c4]
          exact e_i (u := [(h0, .inr (11, [.ref a0, .ref a1, .ref a2, .ref a3, .ref a4, .ref a5, .ref a6, .ref a7, .ref a8, .ref a9, .ref a10, .int (nI nv), .int (nI np), .int cc])), (a0, .inr (8, [.ref tq, .int (nI n0), .int pl]))]) X hQ hr (hW) [0, 1] rfl rfl (⟨hF.symm, rfl⟩) ⟨Nat.le_of_ble_eq_true rfl, Nat.le_of_ble_eq_true rfl⟩ dX11_count_56

theorem dX12_isNews_0 : decode cX12_isNews 0 = .ok (.iload_n 0, 1) := by decide +kernel
theorem dX12_isNews_1 : decode cX12_isNews 1 = .ok (.iconst 0, 1) := by decide +kernel
theorem dX12_isNews_2 : decode cX12_isNews 2 = .ok (.iconst 3, 1) := by decide +kernel
theorem dX12_isNews_3 : decode cX12_isNews 3 = .ok (.invokestatic 198, 3) := by decide +kernel
theorem dX12_isNews_6 : decode cX12_isNews 6 = .ok (.ireturn, 1) := by decide +kernel
theorem dX12_isHour_0 : decode cX12_isHour 0 = .ok (.iload_n 0, 1) := by decide +kernel
theorem dX12_isHour_1 : decode cX12_isHour 1 = .ok (.iconst 1, 1) := by decide +kernel
theorem dX12_isHour_2 : decode cX12_isHour 2 = .ok (.bipush 24, 2) := by decide +kernel
theorem dX12_isHour_4 : decode cX12_isHour 4 = .ok (.invokestatic 198, 3) := by decide +kernel
theorem dX12_isHour_7 : decode cX12_isHour 7 = .ok (.ireturn, 1) := by decide +kernel
theorem dX12_isPlan_12 : decode cX12_isPlan 12 = .ok (.iconst 1, 1) := by decide +kernel
theorem dX12_isPlan_13 : decode cX12_isPlan 13 = .ok (.goto 4, 3) := by decide +kernel
theorem dX12_blank_15 : decode cX12_blank 15 = .ok (.iconst 0, 1) := by decide +kernel
theorem dX12_blank_16 : decode cX12_blank 16 = .ok (.istore_n 2, 1) := by decide +kernel
theorem dX12_blank_17 : decode cX12_blank 17 = .ok (.iload_n 2, 1) := by decide +kernel
theorem dX12_blank_18 : decode cX12_blank 18 = .ok (.bipush 7, 2) := by decide +kernel
theorem dX12_blank_20 : decode cX12_blank 20 = .ok (.if_icmp .ge 21, 3) := by decide +kernel
theorem dX12_blank_41 : decode cX12_blank 41 = .ok (.iconst 1, 1) := by decide +kernel
theorem dX12_blank_42 : decode cX12_blank 42 = .ok (.ireturn, 1) := by decide +kernel
theorem dX12_blank_23 : decode cX12_blank 23 = .ok (.aload_n 0, 1) := by decide +kernel
theorem dX12_blank_24 : decode cX12_blank 24 = .ok (.getfield 126, 3) := by decide +kernel
theorem dX12_blank_27 : decode cX12_blank 27 = .ok (.bipush 7, 2) := by decide +kernel
theorem dX12_blank_29 : decode cX12_blank 29 = .ok (.iload_n 1, 1) := by decide +kernel
theorem dX12_blank_30 : decode cX12_blank 30 = .ok (.imul, 1) := by decide +kernel
theorem dX12_blank_31 : decode cX12_blank 31 = .ok (.iload_n 2, 1) := by decide +kernel
theorem dX12_blank_32 : decode cX12_blank 32 = .ok (.iadd, 1) := by decide +kernel
theorem dX12_blank_33 : decode cX12_blank 33 = .ok (.iconst 0, 1) := by decide +kernel
theorem dX12_blank_34 : decode cX12_blank 34 = .ok (.iastore, 1) := by decide +kernel
theorem dX12_blank_35 : decode cX12_blank 35 = .ok (.iinc 2 1, 3) := by decide +kernel
theorem dX12_blank_38 : decode cX12_blank 38 = .ok (.goto (-21), 3) := by decide +kernel
def F_X12_isIn (x : Int32) (y : Int32) (z : Int32) : Int32 := if x < y then ((0 : Int32)) else (if z < x then ((0 : Int32)) else ((1 : Int32)))
theorem F_X12_isIn_z {x : Int32} {y : Int32} {z : Int32} : narrow .boolean (.int (F_X12_isIn x y z)) = .int (F_X12_isIn x y z) := by unfold F_X12_isIn; (repeat' split) <;> first | rfl | (dsimp only; rfl)
set_option maxHeartbeats 4000000 in
set_option maxRecDepth 100000 in
theorem K_X12_isIn (l : Launch) (g : GG) (x : Int32) (y : Int32) (z : Int32)  : MetI l g yX12_isIn cX12_isIn 3 (some .boolean) 0 0 0 [.int x, .int y, .int z] [] (fun r u => r = (F_X12_isIn x y z) ∧ u = []) := by
  refine MetI.of (own := RX12) rfl (by decide) (Nat.le_of_ble_eq_true rfl) ?_
  intro p e s m below meth c A ls args Q hQ X hr hin hW hl
  have hx := X.1
  have hb := X.2.1
  have hl : lv_has ls 3 [(0, .int x), (1, .int y), (2, .int z)] := hl
  refine lv_iload_n (pc := 0) hx hb dX12_isIn_0 rfl (lv_at hl 0 rfl) ?_
  refine lv_iload_n (pc := 1) hx hb dX12_isIn_1 rfl (lv_at hl 1 rfl) ?_
  refine lv_icmp_lt (tgt := 14) (pc := 2) hx hb dX12_isIn_2 rfl (fun c1 => ?_) (fun c1 => ?_)
  · refine lv_iconst (v := 0) (pc := 14) hx hb dX12_isIn_14 (by decide) ?_
    have hF : F_X12_isIn x y z = (0 : Int32) := show F_X12_isIn x y z = (0 : Int32) from by rw [F_X12_isIn, if_pos c1]
    exact e_z (u := []) X hQ hr (hW) rfl [] rfl rfl (⟨hF.symm, rfl⟩) ⟨Nat.le_of_ble_eq_true rfl, Nat.le_of_ble_eq_true rfl⟩ dX12_isIn_15
  · refine lv_iload_n (pc := 5) hx hb dX12_isIn_5 rfl (lv_at hl 0 rfl) ?_
    refine lv_iload_n (pc := 6) hx hb dX12_isIn_6 rfl (lv_at hl 2 rfl) ?_
    refine lv_icmp_gt (tgt := 14) (pc := 7) hx hb dX12_isIn_7 rfl (fun c4 => ?_) (fun c4 => ?_)
    · refine lv_iconst (v := 0) (pc := 14) hx hb dX12_isIn_14 (by decide) ?_
      have hF : F_X12_isIn x y z = (0 : Int32) := show F_X12_isIn x y z = (0 : Int32) from by rw [F_X12_isIn, if_neg c1, if_pos c4]
      exact e_z (u := []) X hQ hr (hW) rfl [] rfl rfl (⟨hF.symm, rfl⟩) ⟨Nat.le_of_ble_eq_true rfl, Nat.le_of_ble_eq_true rfl⟩ dX12_isIn_15
    · refine lv_iconst (v := 1) (pc := 10) hx hb dX12_isIn_10 (by decide) ?_
      refine lv_goto (tgt := 15) (pc := 11) hx hb dX12_isIn_11 rfl ?_
      have hF : F_X12_isIn x y z = (1 : Int32) := show F_X12_isIn x y z = (1 : Int32) from by rw [F_X12_isIn, if_neg c1, if_neg c4]
      exact e_z (u := []) X hQ hr (hW) rfl [] rfl rfl (⟨hF.symm, rfl⟩) ⟨Nat.le_of_ble_eq_true rfl, Nat.le_of_ble_eq_true rfl⟩ dX12_isIn_15

def F_X12_isNews (x : Int32) : Int32 := F_X12_isIn x (0 : Int32) (3 : Int32)
theorem F_X12_isNews_z {x : Int32} : narrow .boolean (.int (F_X12_isNews x)) = .int (F_X12_isNews x) := by unfold F_X12_isNews; (repeat' split) <;> first | rfl | (dsimp only; rfl) | exact F_X12_isIn_z .. | (dsimp only; exact F_X12_isIn_z ..)
set_option maxHeartbeats 4000000 in
set_option maxRecDepth 100000 in
theorem K_X12_isNews (l : Launch) (g : GG) (x : Int32)  : MetI l g yX12_isNews cX12_isNews 1 (some .boolean) 1 0 0 [.int x] [] (fun r u => r = (F_X12_isNews x) ∧ u = []) := by
  refine MetI.of (own := RX12) rfl (by decide) (Nat.le_of_ble_eq_true rfl) ?_
  intro p e s m below meth c A ls args Q hQ X hr hin hW hl
  have hx := X.1
  have hb := X.2.1
  have hl : lv_has ls 1 [(0, .int x)] := hl
  refine lv_iload_n (pc := 0) hx hb dX12_isNews_0 rfl (lv_at hl 0 rfl) ?_
  refine lv_iconst (v := 0) (pc := 1) hx hb dX12_isNews_1 (by decide) ?_
  refine lv_iconst (v := 3) (pc := 2) hx hb dX12_isNews_2 (by decide) ?_
  refine c_Si (pc := 3) (As := [.int x, .int 0, .int 3]) (rest := []) (wr := []) X hW (K_X12_isIn l g x (0 : Int32) (3 : Int32)) vX12_198 [] [] rfl rfl rfl rfl rfl rfl hl.1 rfl (Nat.le_of_ble_eq_true rfl) ⟨Nat.le_of_ble_eq_true rfl, Nat.le_of_ble_eq_true rfl⟩ ⟨Nat.le_of_ble_eq_true rfl, Nat.le_of_ble_eq_true rfl⟩ dX12_isNews_3 (fun r1 u9 H locs hq hW => ?_)
  obtain ⟨rfl, rfl⟩ := hq
  have hW : WD g A s _ _ [] := hW
  have hF : F_X12_isNews x = F_X12_isIn x (0 : Int32) (3 : Int32) := show F_X12_isNews x = F_X12_isIn x (0 : Int32) (3 : Int32) from rfl
  exact e_z (u := []) X hQ hr (hW) (F_X12_isIn_z ..) [] rfl rfl (⟨hF.symm, rfl⟩) ⟨Nat.le_of_ble_eq_true rfl, Nat.le_of_ble_eq_true rfl⟩ dX12_isNews_6

def F_X12_isHour (x : Int32) : Int32 := F_X12_isIn x (1 : Int32) (24 : Int32)
theorem F_X12_isHour_z {x : Int32} : narrow .boolean (.int (F_X12_isHour x)) = .int (F_X12_isHour x) := by unfold F_X12_isHour; (repeat' split) <;> first | rfl | (dsimp only; rfl) | exact F_X12_isIn_z .. | (dsimp only; exact F_X12_isIn_z ..)
set_option maxHeartbeats 4000000 in
set_option maxRecDepth 100000 in
theorem K_X12_isHour (l : Launch) (g : GG) (x : Int32)  : MetI l g yX12_isHour cX12_isHour 1 (some .boolean) 1 0 0 [.int x] [] (fun r u => r = (F_X12_isHour x) ∧ u = []) := by
  refine MetI.of (own := RX12) rfl (by decide) (Nat.le_of_ble_eq_true rfl) ?_
  intro p e s m below meth c A ls args Q hQ X hr hin hW hl
  have hx := X.1
  have hb := X.2.1
  have hl : lv_has ls 1 [(0, .int x)] := hl
  refine lv_iload_n (pc := 0) hx hb dX12_isHour_0 rfl (lv_at hl 0 rfl) ?_
  refine lv_iconst (v := 1) (pc := 1) hx hb dX12_isHour_1 (by decide) ?_
  refine lv_bipush (v := 24) (pc := 2) hx hb dX12_isHour_2 (by decide) ?_
  refine c_Si (pc := 4) (As := [.int x, .int 1, .int 24]) (rest := []) (wr := []) X hW (K_X12_isIn l g x (1 : Int32) (24 : Int32)) vX12_198 [] [] rfl rfl rfl rfl rfl rfl hl.1 rfl (Nat.le_of_ble_eq_true rfl) ⟨Nat.le_of_ble_eq_true rfl, Nat.le_of_ble_eq_true rfl⟩ ⟨Nat.le_of_ble_eq_true rfl, Nat.le_of_ble_eq_true rfl⟩ dX12_isHour_4 (fun r1 u9 H locs hq hW => ?_)
  obtain ⟨rfl, rfl⟩ := hq
  have hW : WD g A s _ _ [] := hW
  have hF : F_X12_isHour x = F_X12_isIn x (1 : Int32) (24 : Int32) := show F_X12_isHour x = F_X12_isIn x (1 : Int32) (24 : Int32) from rfl
  exact e_z (u := []) X hQ hr (hW) (F_X12_isIn_z ..) [] rfl rfl (⟨hF.symm, rfl⟩) ⟨Nat.le_of_ble_eq_true rfl, Nat.le_of_ble_eq_true rfl⟩ dX12_isHour_7

theorem F_X12_isValley_z {nv : Nat} {x : Int32} : narrow .boolean (.int (F_X12_isValley nv x)) = .int (F_X12_isValley nv x) := by unfold F_X12_isValley; (repeat' split) <;> first | rfl | (dsimp only; rfl)
def F_X12_isPlan (np : Nat) (x : Int32) : Int32 := if x < 0 then ((0 : Int32)) else (if nI np ≤ x then ((0 : Int32)) else ((1 : Int32)))
set_option maxHeartbeats 4000000 in
set_option maxRecDepth 100000 in
theorem K_X12_isPlan (l : Launch) (g : GG) (h0 : Nat) (vs : List Value) (np : Nat) (x : Int32) (hlen : vs.length = 64) (h27_ : vs[27]? = some (.int (nI np))) : MetI l g yX12_isPlan cX12_isPlan 2 (some .boolean) 0 0 0 [.ref h0, .int x] [(h0, .inr (12, vs))] (fun r u => r = (F_X12_isPlan np x) ∧ u = [(h0, .inr (12, vs))]) := by
  refine MetI.of (own := RX12) rfl (by decide) (Nat.le_of_ble_eq_true rfl) ?_
  intro p e s m below meth c A ls args Q hQ X hr hin hW hl
  have hx := X.1
  have hb := X.2.1
  have hl : lv_has ls 2 [(0, .ref h0), (1, .int x)] := hl
  refine lv_iload_n (pc := 0) hx hb dX12_isPlan_0 rfl (lv_at hl 1 rfl) ?_
  refine lv_if_lt (tgt := 16) (pc := 1) hx hb dX12_isPlan_1 rfl (fun c1 => ?_) (fun c1 => ?_)
  · refine lv_iconst (v := 0) (pc := 16) hx hb dX12_isPlan_16 (by decide) ?_
    have hF : F_X12_isPlan np x = (0 : Int32) := show F_X12_isPlan np x = (0 : Int32) from by rw [F_X12_isPlan, if_pos c1]
    exact e_z (u := [(h0, .inr (12, vs))]) X hQ hr (hW) rfl [0] rfl rfl (⟨hF.symm, rfl⟩) ⟨Nat.le_of_ble_eq_true rfl, Nat.le_of_ble_eq_true rfl⟩ dX12_isPlan_17
  · refine lv_iload_n (pc := 4) hx hb dX12_isPlan_4 rfl (lv_at hl 1 rfl) ?_
    refine lv_aload_n (pc := 5) hx hb dX12_isPlan_5 rfl (lv_at hl 0 rfl) ?_
    refine r_get X hW 0 ciX12 27 rfl (by decide) m_1258 rfl h27_ dX12_isPlan_6 ?_
    refine lv_icmp_ge (tgt := 16) (pc := 9) hx hb dX12_isPlan_9 rfl (fun c4 => ?_) (fun c4 => ?_)
    · refine lv_iconst (v := 0) (pc := 16) hx hb dX12_isPlan_16 (by decide) ?_
      have hF : F_X12_isPlan np x = (0 : Int32) := show F_X12_isPlan np x = (0 : Int32) from by rw [F_X12_isPlan, if_neg c1, if_pos c4]
      exact e_z (u := [(h0, .inr (12, vs))]) X hQ hr (hW) rfl [0] rfl rfl (⟨hF.symm, rfl⟩) ⟨Nat.le_of_ble_eq_true rfl, Nat.le_of_ble_eq_true rfl⟩ dX12_isPlan_17
    · refine lv_iconst (v := 1) (pc := 12) hx hb dX12_isPlan_12 (by decide) ?_
      refine lv_goto (tgt := 17) (pc := 13) hx hb dX12_isPlan_13 rfl ?_
      have hF : F_X12_isPlan np x = (1 : Int32) := show F_X12_isPlan np x = (1 : Int32) from by rw [F_X12_isPlan, if_neg c1, if_neg c4]
      exact e_z (u := [(h0, .inr (12, vs))]) X hQ hr (hW) rfl [0] rfl rfl (⟨hF.symm, rfl⟩) ⟨Nat.le_of_ble_eq_true rfl, Nat.le_of_ble_eq_true rfl⟩ dX12_isPlan_17

theorem in_at {x y z : Int32} (h : ¬ F_X12_isIn x y z = 0) : y ≤ x ∧ x ≤ z := by
  unfold F_X12_isIn at h
  by_cases h1 : x < y
  · rw [if_pos h1] at h; exact absurd rfl h
  · rw [if_neg h1] at h
    by_cases h2 : z < x
    · rw [if_pos h2] at h; exact absurd rfl h
    · exact ⟨Int32.not_lt.mp h1, Int32.not_lt.mp h2⟩
theorem rp_at {x : Int32} {n : Nat} (hn : n < 2 ^ 31) (h : ¬ F_X12_isPlan n x = 0) : x = nI (tN x) ∧ tN x < n := by
  unfold F_X12_isPlan at h
  by_cases h1 : x < 0
  · rw [if_pos h1] at h; exact absurd rfl h
  · rw [if_neg h1] at h
    by_cases h2 : nI n ≤ x
    · rw [if_pos h2] at h; exact absurd rfl h
    · exact tN_in hn (Int32.not_lt.mp h1) (Int32.not_le.mp h2)

def L1_X12_blanks (x : Int32) (j1 : Nat) (fb53_1 : Nat → Int32) : (Nat → Int32) := (upd fb53_1 (7 * (tN x) + j1) (0 : Int32))
def L1_X12_blank (x : Int32) (i0_ : Nat → Int32) : Nat → (Nat → Int32)
  | 0 => (i0_)
  | k_ + 1 => L1_X12_blanks x k_ (L1_X12_blank x i0_ k_)
def F_X12_blank (nv : Nat) (cL : Nat → Int32) (x : Int32) : Int32 × (Nat → Int32) := if F_X12_isValley nv x = 0 then (((0 : Int32), cL)) else (((1 : Int32), (L1_X12_blank x cL 7)))
set_option maxHeartbeats 4000000 in
set_option maxRecDepth 100000 in
theorem K_X12_blank (l : Launch) (g : GG) (h0 : Nat) (vs : List Value) (nv : Nat) (b53 : Nat) (cL : Nat → Int32) (x : Int32) (hlen : vs.length = 64) (h18_ : vs[18]? = some (.int (nI nv))) (h53_ : vs[53]? = some (.ref b53)) (hn : nv ≤ 10) : MetI l g yX12_blank cX12_blank 3 (some .boolean) 1 0 0 [.ref h0, .int x] [(h0, .inr (12, vs)), (b53, .inl (g.2.1 1, 77, .inl cL))] (fun r u => r = (F_X12_blank nv cL x).1 ∧ u = [(h0, .inr (12, (vs.set 0 (.int 0)))), (b53, .inl (g.2.1 1, 77, .inl ((F_X12_blank nv cL x).2)))]) := by
  refine MetI.of (own := RX12) rfl (by decide) (Nat.le_of_ble_eq_true rfl) ?_
  intro p e s m below meth c A ls args Q hQ X hr hin hW hl
  have hx := X.1
  have hb := X.2.1
  have hl : lv_has ls 3 [(0, .ref h0), (1, .int x)] := hl
  refine lv_aload_n (pc := 0) hx hb dX12_blank_0 rfl (lv_at hl 0 rfl) ?_
  refine lv_iconst (v := 0) (pc := 1) hx hb dX12_blank_1 (by decide) ?_
  refine r_put (ws' := [(h0, .inr (12, (vs.set 0 (.int 0)))), (b53, .inl (g.2.1 1, 77, .inl cL))]) X hW 0 ciX12 0 rfl (by decide) m_1231 rfl rfl rfl rfl (sv_lt (by decide) hlen) rfl dX12_blank_2 (fun H locs hW => ?_)
  refine lv_aload_n (pc := 5) hx hb dX12_blank_5 rfl (lv_at hl 0 rfl) ?_
  refine lv_iload_n (pc := 6) hx hb dX12_blank_6 rfl (lv_at hl 1 rfl) ?_
  refine c_Vi (pc := 7) (As := [.int x]) (rest := []) (wr := [(b53, .inl (g.2.1 1, 77, .inl cL))]) X hW 0 ciX12 rfl (K_X12_isValley l g h0 (vs.set 0 (.int 0)) nv x (sv_len hlen) (sv_ne (k := 0) (by decide) h18_)) vX12_221 [0] [1] rfl rfl rfl rfl rfl rfl hl.1 rfl (Nat.le_of_ble_eq_true rfl) ⟨Nat.le_of_ble_eq_true rfl, Nat.le_of_ble_eq_true rfl⟩ ⟨Nat.le_of_ble_eq_true rfl, Nat.le_of_ble_eq_true rfl⟩ dX12_blank_7 (fun r1 u9 H locs hq hW => ?_)
  obtain ⟨rfl, rfl⟩ := hq
  have hW : WD g A s _ _ [(b53, .inl (g.2.1 1, 77, .inl cL)), (h0, .inr (12, (vs.set 0 (.int 0))))] := hW
  refine lv_if_ne (tgt := 15) (pc := 10) hx hb dX12_blank_10 rfl (fun c2 => ?_) (fun c2 => ?_)
  · have hvx := rv_at (n := nv) (by omega) c2
    have hvx2 := hvx.2
    rw [hvx.1] at hl
    refine lv_iconst (v := 0) (pc := 15) hx hb dX12_blank_15 (by decide) ?_
    refine lv_istore_n (lv' := [(2, .int 0), (0, .ref h0), (1, .int (nI (tN x)))]) (pc := 16) hx hb dX12_blank_16 rfl hl (by decide) rfl (fun ls hl => ?_)
    have loop1 : ∀ (fu1 : Nat) (j1 : Nat) (fb53_1 : Nat → Int32), (7 < fu1 + j1) → (j1 ≤ 7) → (fb53_1 = L1_X12_blank x cL j1) → ∀ (H : Heap) (locs : List Loc) (ls : Array Slot), WD g A s H locs [(b53, .inl (g.2.1 1, 77, .inl fb53_1)), (h0, .inr (12, (vs.set 0 (.int 0))))] → lv_has ls 3 [(2, .int (nI j1)), (0, .ref h0), (1, .int (nI (tN x)))] → W p l e (RM 1 0 0) s m args below meth c H locs 0 0 Q (F0 m 17 ls []) := by
      intro fu1
      induction fu1 with
      | zero =>
        intro j1 fb53_1 hm1 hj1 hst1
        exact absurd hm1 (by omega)
      | succ fu1 ih1 =>
        intro j1 fb53_1 hm1 hj1 hst1 H locs ls hW hl
        refine lv_iload_n (pc := 17) hx hb dX12_blank_17 rfl (lv_at hl 0 rfl) ?_
        refine lv_bipush (v := 7) (pc := 18) hx hb dX12_blank_18 (by decide) ?_
        refine lv_icmp_ge (tgt := 41) (pc := 20) hx hb dX12_blank_20 rfl (fun c4 => ?_) (fun c4 => ?_)
        · have h5 : 7 ≤ j1 := (nI_leI (a := 7) (b := j1) (by omega) (by omega)).mp c4
          have hN1 : j1 = 7 := by omega
          rw [hN1] at hst1
          subst hst1
          have hW : WD g A s _ _ [(b53, .inl (g.2.1 1, 77, .inl (L1_X12_blank x cL 7))), (h0, .inr (12, (vs.set 0 (.int 0))))] := hW
          refine lv_iconst (v := 1) (pc := 41) hx hb dX12_blank_41 (by decide) ?_
          have hF : F_X12_blank nv cL x = ((1 : Int32), (L1_X12_blank x cL 7)) := show F_X12_blank nv cL x = ((1 : Int32), (L1_X12_blank x cL 7)) from by rw [F_X12_blank, if_neg c2]
          exact e_z (u := [(h0, .inr (12, (vs.set 0 (.int 0)))), (b53, .inl (g.2.1 1, 77, .inl (L1_X12_blank x cL 7)))]) X hQ hr (hW) rfl [1, 0] rfl rfl (⟨(congrArg Prod.fst hF).symm, by rw [hF]⟩) ⟨Nat.le_of_ble_eq_true rfl, Nat.le_of_ble_eq_true rfl⟩ dX12_blank_42
        · have h6 : ¬ (7 ≤ j1) := fun q => c4 ((nI_leI (a := 7) (b := j1) (by omega) (by omega)).mpr q)
          refine lv_aload_n (pc := 23) hx hb dX12_blank_23 rfl (lv_at hl 1 rfl) ?_
          refine r_get X hW 1 ciX12 53 rfl (by decide) m_1280 rfl (sv_ne (k := 0) (by decide) h53_) dX12_blank_24 ?_
          refine lv_bipush (v := 7) (pc := 27) hx hb dX12_blank_27 (by decide) ?_
          refine lv_iload_n (pc := 29) hx hb dX12_blank_29 rfl (lv_at hl 2 rfl) ?_
          refine lv_imul (pc := 30) hx hb dX12_blank_30 ?_
          refine lv_topi (fun v7 ev7 => ?_)
          obtain rfl : v7 = nI (7 * (tN x)) := ev7.trans (pk_mul 7 (tN x))
          refine lv_iload_n (pc := 31) hx hb dX12_blank_31 rfl (lv_at hl 0 rfl) ?_
          refine lv_iadd (pc := 32) hx hb dX12_blank_32 ?_
          refine lv_topi (fun v8 ev8 => ?_)
          obtain rfl : v8 = nI (7 * (tN x) + j1) := ev8.trans (nI_add _ _)
          refine lv_iconst (v := 0) (pc := 33) hx hb dX12_blank_33 (by decide) ?_
          refine r_iast (ws' := [(b53, .inl (g.2.1 1, 77, .inl (upd fb53_1 (7 * (tN x) + j1) (0 : Int32)))), (h0, .inr (12, (vs.set 0 (.int 0))))]) X hW 0 rfl (vp_in_nI (by omega) (by decide)) (f' := (upd fb53_1 (7 * (tN x) + j1) (0 : Int32))) (by rw [nI_clamp (by omega)]) rfl dX12_blank_34 (fun H locs hW => ?_)
          refine lv_iinc (v := nI (j1 + 1)) (lv' := [(2, .int (nI (j1 + 1))), (0, .ref h0), (1, .int (nI (tN x)))]) (pc := 35) hx hb dX12_blank_35 hl (k := 0) rfl (nI_add j1 1) (by decide) rfl (fun ls hl => ?_)
          refine lv_goto (tgt := 17) (pc := 38) hx hb dX12_blank_38 rfl ?_
          exact ih1 (j1 + 1) (upd fb53_1 (7 * (tN x) + j1) (0 : Int32)) (by omega) (by omega) (by rw [L1_X12_blank, ← hst1]; exact (show L1_X12_blanks x j1 fb53_1 = (upd fb53_1 (7 * (tN x) + j1) (0 : Int32)) from rfl).symm) _ _ _ hW (lv_sub hl [0, 1, 2] rfl)
    exact loop1 (7 + 1) 0 cL (by omega) (by omega) rfl _ _ _ hW (lv_sub hl [0, 1, 2] rfl)
  · refine lv_iconst (v := 0) (pc := 13) hx hb dX12_blank_13 (by decide) ?_
    have hF : F_X12_blank nv cL x = ((0 : Int32), cL) := show F_X12_blank nv cL x = ((0 : Int32), cL) from by rw [F_X12_blank, if_pos c2]
    exact e_z (u := [(h0, .inr (12, (vs.set 0 (.int 0)))), (b53, .inl (g.2.1 1, 77, .inl cL))]) X hQ hr (hW) rfl [1, 0] rfl rfl (⟨(congrArg Prod.fst hF).symm, by rw [hF]⟩) ⟨Nat.le_of_ble_eq_true rfl, Nat.le_of_ble_eq_true rfl⟩ dX12_blank_14


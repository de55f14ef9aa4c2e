theorem dX12_isLine_8 : decode cX12_isLine 8 = .ok (.iload_n 2, 1) := DX12_isLine _ _ _ rfl
theorem dX12_isLine_9 : decode cX12_isLine 9 = .ok (.iconst 0, 1) := DX12_isLine _ _ _ rfl
theorem dX12_isLine_10 : decode cX12_isLine 10 = .ok (.aload_n 0, 1) := DX12_isLine _ _ _ rfl
theorem dX12_isLine_11 : decode cX12_isLine 11 = .ok (.getfield 17, 3) := DX12_isLine _ _ _ rfl
theorem dX12_isLine_14 : decode cX12_isLine 14 = .ok (.iload_n 1, 1) := DX12_isLine _ _ _ rfl
theorem dX12_isLine_15 : decode cX12_isLine 15 = .ok (.iaload, 1) := DX12_isLine _ _ _ rfl
theorem dX12_isLine_16 : decode cX12_isLine 16 = .ok (.iconst 1, 1) := DX12_isLine _ _ _ rfl
theorem dX12_isLine_17 : decode cX12_isLine 17 = .ok (.isub, 1) := DX12_isLine _ _ _ rfl
theorem dX12_isLine_18 : decode cX12_isLine 18 = .ok (.invokestatic 198, 3) := DX12_isLine _ _ _ rfl
theorem dX12_isLine_21 : decode cX12_isLine 21 = .ok (.ifCond .eq 7, 3) := DX12_isLine _ _ _ rfl
theorem dX12_isLine_24 : decode cX12_isLine 24 = .ok (.iconst 1, 1) := DX12_isLine _ _ _ rfl
theorem dX12_isLine_25 : decode cX12_isLine 25 = .ok (.goto 4, 3) := DX12_isLine _ _ _ rfl
theorem dX12_down_14 : decode cX12_down 14 = .ok (.iload_n 3, 1) := DX12_down _ _ _ rfl
theorem dX12_down_15 : decode cX12_down 15 = .ok (.iconst (-1), 1) := DX12_down _ _ _ rfl
theorem dX12_down_16 : decode cX12_down 16 = .ok (.if_icmp .eq 12, 3) := DX12_down _ _ _ rfl
theorem dX12_down_28 : decode cX12_down 28 = .ok (.aload_n 0, 1) := DX12_down _ _ _ rfl
theorem dX12_down_29 : decode cX12_down 29 = .ok (.getfield 44, 3) := DX12_down _ _ _ rfl
theorem dX12_down_32 : decode cX12_down 32 = .ok (.bipush 12, 2) := DX12_down _ _ _ rfl
theorem dX12_down_34 : decode cX12_down 34 = .ok (.iload_n 1, 1) := DX12_down _ _ _ rfl
theorem dX12_down_35 : decode cX12_down 35 = .ok (.imul, 1) := DX12_down _ _ _ rfl
theorem dX12_down_36 : decode cX12_down 36 = .ok (.iload_n 2, 1) := DX12_down _ _ _ rfl
theorem dX12_down_37 : decode cX12_down 37 = .ok (.iadd, 1) := DX12_down _ _ _ rfl
theorem dX12_down_38 : decode cX12_down 38 = .ok (.iload_n 3, 1) := DX12_down _ _ _ rfl
theorem dX12_down_39 : decode cX12_down 39 = .ok (.iastore, 1) := DX12_down _ _ _ rfl
theorem dX12_down_40 : decode cX12_down 40 = .ok (.iconst 1, 1) := DX12_down _ _ _ rfl
theorem dX12_down_41 : decode cX12_down 41 = .ok (.ireturn, 1) := DX12_down _ _ _ rfl
theorem dX12_down_19 : decode cX12_down 19 = .ok (.iload_n 3, 1) := DX12_down _ _ _ rfl
theorem dX12_down_20 : decode cX12_down 20 = .ok (.invokestatic 228, 3) := DX12_down _ _ _ rfl
theorem dX12_down_23 : decode cX12_down 23 = .ok (.ifCond .ne 5, 3) := DX12_down _ _ _ rfl
theorem dX12_works_0 : decode cX12_works 0 = .ok (.iload_n 2, 1) := DX12_works _ _ _ rfl
theorem dX12_works_1 : decode cX12_works 1 = .ok (.aload_n 0, 1) := DX12_works _ _ _ rfl
theorem dX12_works_2 : decode cX12_works 2 = .ok (.getfield 38, 3) := DX12_works _ _ _ rfl
theorem dX12_works_5 : decode cX12_works 5 = .ok (.iload_n 1, 1) := DX12_works _ _ _ rfl
theorem dX12_works_6 : decode cX12_works 6 = .ok (.iaload, 1) := DX12_works _ _ _ rfl
theorem dX12_works_7 : decode cX12_works 7 = .ok (.if_icmp .lt 37, 3) := DX12_works _ _ _ rfl
theorem dX12_works_44 : decode cX12_works 44 = .ok (.iconst 0, 1) := DX12_works _ _ _ rfl
theorem dX12_works_45 : decode cX12_works 45 = .ok (.ireturn, 1) := DX12_works _ _ _ rfl
theorem dX12_works_10 : decode cX12_works 10 = .ok (.iload_n 2, 1) := DX12_works _ _ _ rfl
theorem dX12_works_11 : decode cX12_works 11 = .ok (.aload_n 0, 1) := DX12_works _ _ _ rfl
theorem dX12_works_12 : decode cX12_works 12 = .ok (.getfield 41, 3) := DX12_works _ _ _ rfl
theorem dX12_works_15 : decode cX12_works 15 = .ok (.iload_n 1, 1) := DX12_works _ _ _ rfl
theorem dX12_works_16 : decode cX12_works 16 = .ok (.iaload, 1) := DX12_works _ _ _ rfl
theorem dX12_works_17 : decode cX12_works 17 = .ok (.if_icmp .gt 27, 3) := DX12_works _ _ _ rfl
theorem dX12_works_20 : decode cX12_works 20 = .ok (.aload_n 0, 1) := DX12_works _ _ _ rfl
theorem dX12_works_21 : decode cX12_works 21 = .ok (.getfield 44, 3) := DX12_works _ _ _ rfl
theorem dX12_works_24 : decode cX12_works 24 = .ok (.iload_n 1, 1) := DX12_works _ _ _ rfl
theorem dX12_works_25 : decode cX12_works 25 = .ok (.iaload, 1) := DX12_works _ _ _ rfl
theorem dX12_works_26 : decode cX12_works 26 = .ok (.iconst (-1), 1) := DX12_works _ _ _ rfl
theorem dX12_works_27 : decode cX12_works 27 = .ok (.if_icmp .eq 13, 3) := DX12_works _ _ _ rfl
theorem dX12_works_40 : decode cX12_works 40 = .ok (.iconst 1, 1) := DX12_works _ _ _ rfl
theorem dX12_works_41 : decode cX12_works 41 = .ok (.goto 4, 3) := DX12_works _ _ _ rfl
theorem dX12_works_30 : decode cX12_works 30 = .ok (.iload_n 2, 1) := DX12_works _ _ _ rfl
theorem dX12_works_31 : decode cX12_works 31 = .ok (.aload_n 0, 1) := DX12_works _ _ _ rfl
theorem dX12_works_32 : decode cX12_works 32 = .ok (.getfield 44, 3) := DX12_works _ _ _ rfl
theorem dX12_works_35 : decode cX12_works 35 = .ok (.iload_n 1, 1) := DX12_works _ _ _ rfl
theorem dX12_works_36 : decode cX12_works 36 = .ok (.iaload, 1) := DX12_works _ _ _ rfl
theorem dX12_works_37 : decode cX12_works 37 = .ok (.if_icmp .ge 7, 3) := DX12_works _ _ _ rfl
theorem dX12_mayCall_0 : decode cX12_mayCall 0 = .ok (.aload_n 0, 1) := DX12_mayCall _ _ _ rfl
theorem dX12_mayCall_1 : decode cX12_mayCall 1 = .ok (.getfield 51, 3) := DX12_mayCall _ _ _ rfl
theorem dX12_mayCall_4 : decode cX12_mayCall 4 = .ok (.iload_n 2, 1) := DX12_mayCall _ _ _ rfl
theorem dX12_mayCall_5 : decode cX12_mayCall 5 = .ok (.if_icmp .ne 11, 3) := DX12_mayCall _ _ _ rfl
theorem dX12_mayCall_16 : decode cX12_mayCall 16 = .ok (.aload_n 0, 1) := DX12_mayCall _ _ _ rfl
theorem dX12_mayCall_17 : decode cX12_mayCall 17 = .ok (.getfield 51, 3) := DX12_mayCall _ _ _ rfl
theorem dX12_mayCall_20 : decode cX12_mayCall 20 = .ok (.iload_n 3, 1) := DX12_mayCall _ _ _ rfl
theorem dX12_mayCall_21 : decode cX12_mayCall 21 = .ok (.if_icmp .ne 13, 3) := DX12_mayCall _ _ _ rfl
theorem dX12_mayCall_34 : decode cX12_mayCall 34 = .ok (.iconst 0, 1) := DX12_mayCall _ _ _ rfl
theorem dX12_mayCall_35 : decode cX12_mayCall 35 = .ok (.istore 5, 2) := DX12_mayCall _ _ _ rfl
theorem dX12_mayCall_37 : decode cX12_mayCall 37 = .ok (.iload 5, 2) := DX12_mayCall _ _ _ rfl
theorem dX12_mayCall_39 : decode cX12_mayCall 39 = .ok (.aload_n 0, 1) := DX12_mayCall _ _ _ rfl
theorem dX12_mayCall_40 : decode cX12_mayCall 40 = .ok (.getfield 17, 3) := DX12_mayCall _ _ _ rfl
theorem dX12_mayCall_43 : decode cX12_mayCall 43 = .ok (.iload_n 1, 1) := DX12_mayCall _ _ _ rfl
theorem dX12_mayCall_44 : decode cX12_mayCall 44 = .ok (.iaload, 1) := DX12_mayCall _ _ _ rfl
theorem dX12_mayCall_45 : decode cX12_mayCall 45 = .ok (.if_icmp .ge 43, 3) := DX12_mayCall _ _ _ rfl
theorem dX12_mayCall_88 : decode cX12_mayCall 88 = .ok (.iconst 0, 1) := DX12_mayCall _ _ _ rfl
theorem dX12_mayCall_89 : decode cX12_mayCall 89 = .ok (.ireturn, 1) := DX12_mayCall _ _ _ rfl
theorem dX12_mayCall_48 : decode cX12_mayCall 48 = .ok (.aload_n 0, 1) := DX12_mayCall _ _ _ rfl
theorem dX12_mayCall_49 : decode cX12_mayCall 49 = .ok (.bipush 12, 2) := DX12_mayCall _ _ _ rfl
theorem dX12_mayCall_51 : decode cX12_mayCall 51 = .ok (.iload_n 1, 1) := DX12_mayCall _ _ _ rfl
theorem dX12_mayCall_52 : decode cX12_mayCall 52 = .ok (.imul, 1) := DX12_mayCall _ _ _ rfl
theorem dX12_mayCall_53 : decode cX12_mayCall 53 = .ok (.iload 5, 2) := DX12_mayCall _ _ _ rfl
theorem dX12_mayCall_55 : decode cX12_mayCall 55 = .ok (.iadd, 1) := DX12_mayCall _ _ _ rfl
theorem dX12_mayCall_56 : decode cX12_mayCall 56 = .ok (.iload_n 2, 1) := DX12_mayCall _ _ _ rfl
theorem dX12_mayCall_57 : decode cX12_mayCall 57 = .ok (.iload_n 3, 1) := DX12_mayCall _ _ _ rfl
theorem dX12_mayCall_58 : decode cX12_mayCall 58 = .ok (.invokevirtual 231, 3) := DX12_mayCall _ _ _ rfl
theorem dX12_mayCall_61 : decode cX12_mayCall 61 = .ok (.ifCond .eq 21, 3) := DX12_mayCall _ _ _ rfl
theorem dX12_mayCall_82 : decode cX12_mayCall 82 = .ok (.iinc 5 1, 3) := DX12_mayCall _ _ _ rfl
theorem dX12_mayCall_85 : decode cX12_mayCall 85 = .ok (.goto (-48), 3) := DX12_mayCall _ _ _ rfl
theorem dX12_mayCall_64 : decode cX12_mayCall 64 = .ok (.aload_n 0, 1) := DX12_mayCall _ _ _ rfl
theorem dX12_mayCall_65 : decode cX12_mayCall 65 = .ok (.bipush 12, 2) := DX12_mayCall _ _ _ rfl
theorem dX12_mayCall_67 : decode cX12_mayCall 67 = .ok (.iload_n 1, 1) := DX12_mayCall _ _ _ rfl
theorem dX12_mayCall_68 : decode cX12_mayCall 68 = .ok (.imul, 1) := DX12_mayCall _ _ _ rfl
theorem dX12_mayCall_69 : decode cX12_mayCall 69 = .ok (.iload 5, 2) := DX12_mayCall _ _ _ rfl
theorem dX12_mayCall_71 : decode cX12_mayCall 71 = .ok (.iadd, 1) := DX12_mayCall _ _ _ rfl
theorem dX12_mayCall_72 : decode cX12_mayCall 72 = .ok (.iload 4, 2) := DX12_mayCall _ _ _ rfl
theorem dX12_mayCall_74 : decode cX12_mayCall 74 = .ok (.invokevirtual 234, 3) := DX12_mayCall _ _ _ rfl
theorem dX12_mayCall_77 : decode cX12_mayCall 77 = .ok (.ifCond .eq 5, 3) := DX12_mayCall _ _ _ rfl
theorem dX12_mayCall_80 : decode cX12_mayCall 80 = .ok (.iconst 1, 1) := DX12_mayCall _ _ _ rfl
theorem dX12_mayCall_81 : decode cX12_mayCall 81 = .ok (.ireturn, 1) := DX12_mayCall _ _ _ rfl
theorem dX12_card_13 : decode cX12_card 13 = .ok (.aload_n 0, 1) := DX12_card _ _ _ rfl
theorem dX12_card_14 : decode cX12_card 14 = .ok (.iload_n 1, 1) := DX12_card _ _ _ rfl
theorem dX12_card_15 : decode cX12_card 15 = .ok (.iload_n 2, 1) := DX12_card _ _ _ rfl
theorem dX12_card_16 : decode cX12_card 16 = .ok (.invokevirtual 237, 3) := DX12_card _ _ _ rfl
theorem dX12_card_19 : decode cX12_card 19 = .ok (.ifCond .eq 33, 3) := DX12_card _ _ _ rfl
theorem dX12_card_22 : decode cX12_card 22 = .ok (.aload_n 0, 1) := DX12_card _ _ _ rfl
theorem dX12_card_23 : decode cX12_card 23 = .ok (.iload_n 1, 1) := DX12_card _ _ _ rfl
theorem dX12_card_24 : decode cX12_card 24 = .ok (.iload_n 3, 1) := DX12_card _ _ _ rfl
theorem dX12_card_25 : decode cX12_card 25 = .ok (.invokevirtual 237, 3) := DX12_card _ _ _ rfl
theorem dX12_card_28 : decode cX12_card 28 = .ok (.ifCond .eq 24, 3) := DX12_card _ _ _ rfl
theorem dX12_card_31 : decode cX12_card 31 = .ok (.iload_n 2, 1) := DX12_card _ _ _ rfl
theorem dX12_card_32 : decode cX12_card 32 = .ok (.iload_n 3, 1) := DX12_card _ _ _ rfl
theorem dX12_card_33 : decode cX12_card 33 = .ok (.if_icmp .eq 19, 3) := DX12_card _ _ _ rfl
theorem dX12_card_36 : decode cX12_card 36 = .ok (.aload_n 0, 1) := DX12_card _ _ _ rfl
theorem dX12_card_37 : decode cX12_card 37 = .ok (.getfield 126, 3) := DX12_card _ _ _ rfl
theorem dX12_card_40 : decode cX12_card 40 = .ok (.bipush 7, 2) := DX12_card _ _ _ rfl
theorem dX12_card_42 : decode cX12_card 42 = .ok (.iload_n 1, 1) := DX12_card _ _ _ rfl
theorem dX12_card_43 : decode cX12_card 43 = .ok (.imul, 1) := DX12_card _ _ _ rfl
theorem dX12_card_44 : decode cX12_card 44 = .ok (.iload_n 2, 1) := DX12_card _ _ _ rfl
theorem dX12_card_45 : decode cX12_card 45 = .ok (.iadd, 1) := DX12_card _ _ _ rfl
theorem dX12_card_46 : decode cX12_card 46 = .ok (.iaload, 1) := DX12_card _ _ _ rfl
theorem dX12_card_47 : decode cX12_card 47 = .ok (.bipush 6, 2) := DX12_card _ _ _ rfl
theorem dX12_card_49 : decode cX12_card 49 = .ok (.if_icmp .ne 5, 3) := DX12_card _ _ _ rfl
theorem dX12_card_54 : decode cX12_card 54 = .ok (.bipush 7, 2) := DX12_card _ _ _ rfl
theorem dX12_card_56 : decode cX12_card 56 = .ok (.iload_n 1, 1) := DX12_card _ _ _ rfl
theorem dX12_card_57 : decode cX12_card 57 = .ok (.imul, 1) := DX12_card _ _ _ rfl
theorem dX12_card_58 : decode cX12_card 58 = .ok (.iload_n 2, 1) := DX12_card _ _ _ rfl
theorem dX12_card_59 : decode cX12_card 59 = .ok (.iadd, 1) := DX12_card _ _ _ rfl
theorem dX12_card_60 : decode cX12_card 60 = .ok (.istore 4, 2) := DX12_card _ _ _ rfl
theorem dX12_card_62 : decode cX12_card 62 = .ok (.aload_n 0, 1) := DX12_card _ _ _ rfl
theorem dX12_card_63 : decode cX12_card 63 = .ok (.getfield 123, 3) := DX12_card _ _ _ rfl
theorem dX12_card_66 : decode cX12_card 66 = .ok (.bipush 6, 2) := DX12_card _ _ _ rfl
theorem dX12_card_68 : decode cX12_card 68 = .ok (.iload 4, 2) := DX12_card _ _ _ rfl
theorem dX12_card_70 : decode cX12_card 70 = .ok (.imul, 1) := DX12_card _ _ _ rfl
theorem dX12_card_71 : decode cX12_card 71 = .ok (.aload_n 0, 1) := DX12_card _ _ _ rfl
theorem dX12_card_72 : decode cX12_card 72 = .ok (.getfield 126, 3) := DX12_card _ _ _ rfl
theorem dX12_card_75 : decode cX12_card 75 = .ok (.iload 4, 2) := DX12_card _ _ _ rfl
theorem dX12_card_77 : decode cX12_card 77 = .ok (.iaload, 1) := DX12_card _ _ _ rfl
theorem dX12_card_78 : decode cX12_card 78 = .ok (.iadd, 1) := DX12_card _ _ _ rfl
theorem dX12_card_79 : decode cX12_card 79 = .ok (.iload_n 3, 1) := DX12_card _ _ _ rfl
theorem dX12_card_80 : decode cX12_card 80 = .ok (.iastore, 1) := DX12_card _ _ _ rfl
theorem dX12_card_81 : decode cX12_card 81 = .ok (.aload_n 0, 1) := DX12_card _ _ _ rfl
theorem dX12_card_82 : decode cX12_card 82 = .ok (.getfield 126, 3) := DX12_card _ _ _ rfl
theorem dX12_card_85 : decode cX12_card 85 = .ok (.iload 4, 2) := DX12_card _ _ _ rfl
theorem dX12_card_87 : decode cX12_card 87 = .ok (.dup2, 1) := DX12_card _ _ _ rfl
theorem dX12_card_88 : decode cX12_card 88 = .ok (.iaload, 1) := DX12_card _ _ _ rfl
theorem dX12_card_89 : decode cX12_card 89 = .ok (.iconst 1, 1) := DX12_card _ _ _ rfl
theorem dX12_card_90 : decode cX12_card 90 = .ok (.iadd, 1) := DX12_card _ _ _ rfl
theorem dX12_card_91 : decode cX12_card 91 = .ok (.iastore, 1) := DX12_card _ _ _ rfl
theorem dX12_card_92 : decode cX12_card 92 = .ok (.aload_n 0, 1) := DX12_card _ _ _ rfl
theorem dX12_card_93 : decode cX12_card 93 = .ok (.getfield 126, 3) := DX12_card _ _ _ rfl
theorem dX12_card_96 : decode cX12_card 96 = .ok (.iload 4, 2) := DX12_card _ _ _ rfl
theorem dX12_card_98 : decode cX12_card 98 = .ok (.iaload, 1) := DX12_card _ _ _ rfl
theorem dX12_card_99 : decode cX12_card 99 = .ok (.ireturn, 1) := DX12_card _ _ _ rfl
theorem dX12_tale_13 : decode cX12_tale 13 = .ok (.iload_n 2, 1) := DX12_tale _ _ _ rfl
theorem dX12_tale_14 : decode cX12_tale 14 = .ok (.invokestatic 308, 3) := DX12_tale _ _ _ rfl
theorem dX12_tale_17 : decode cX12_tale 17 = .ok (.ifCond .eq 23, 3) := DX12_tale _ _ _ rfl
theorem dX12_tale_20 : decode cX12_tale 20 = .ok (.aload_n 0, 1) := DX12_tale _ _ _ rfl
theorem dX12_tale_21 : decode cX12_tale 21 = .ok (.iload_n 1, 1) := DX12_tale _ _ _ rfl
theorem dX12_tale_22 : decode cX12_tale 22 = .ok (.iload_n 3, 1) := DX12_tale _ _ _ rfl
theorem dX12_tale_23 : decode cX12_tale 23 = .ok (.invokevirtual 237, 3) := DX12_tale _ _ _ rfl
theorem dX12_tale_26 : decode cX12_tale 26 = .ok (.ifCond .eq 14, 3) := DX12_tale _ _ _ rfl
theorem dX12_tale_29 : decode cX12_tale 29 = .ok (.iload 4, 2) := DX12_tale _ _ _ rfl
theorem dX12_tale_31 : decode cX12_tale 31 = .ok (.iconst (-1), 1) := DX12_tale _ _ _ rfl
theorem dX12_tale_32 : decode cX12_tale 32 = .ok (.bipush 24, 2) := DX12_tale _ _ _ rfl
theorem dX12_tale_34 : decode cX12_tale 34 = .ok (.invokestatic 198, 3) := DX12_tale _ _ _ rfl
theorem dX12_tale_37 : decode cX12_tale 37 = .ok (.ifCond .ne 5, 3) := DX12_tale _ _ _ rfl
theorem dX12_tale_42 : decode cX12_tale 42 = .ok (.aload_n 0, 1) := DX12_tale _ _ _ rfl
theorem dX12_tale_43 : decode cX12_tale 43 = .ok (.getfield 151, 3) := DX12_tale _ _ _ rfl
theorem dX12_tale_46 : decode cX12_tale 46 = .ok (.bipush 7, 2) := DX12_tale _ _ _ rfl
theorem dX12_tale_48 : decode cX12_tale 48 = .ok (.iconst 4, 1) := DX12_tale _ _ _ rfl
theorem dX12_tale_49 : decode cX12_tale 49 = .ok (.iload_n 1, 1) := DX12_tale _ _ _ rfl
theorem dX12_tale_50 : decode cX12_tale 50 = .ok (.imul, 1) := DX12_tale _ _ _ rfl
theorem dX12_tale_51 : decode cX12_tale 51 = .ok (.iload_n 2, 1) := DX12_tale _ _ _ rfl
theorem dX12_tale_52 : decode cX12_tale 52 = .ok (.iadd, 1) := DX12_tale _ _ _ rfl
theorem dX12_tale_53 : decode cX12_tale 53 = .ok (.imul, 1) := DX12_tale _ _ _ rfl
theorem dX12_tale_54 : decode cX12_tale 54 = .ok (.iload_n 3, 1) := DX12_tale _ _ _ rfl
theorem dX12_tale_55 : decode cX12_tale 55 = .ok (.iadd, 1) := DX12_tale _ _ _ rfl
theorem dX12_tale_56 : decode cX12_tale 56 = .ok (.iload 4, 2) := DX12_tale _ _ _ rfl
theorem dX12_tale_58 : decode cX12_tale 58 = .ok (.iastore, 1) := DX12_tale _ _ _ rfl
theorem dX12_tale_59 : decode cX12_tale 59 = .ok (.iconst 1, 1) := DX12_tale _ _ _ rfl
theorem dX12_tale_60 : decode cX12_tale 60 = .ok (.ireturn, 1) := DX12_tale _ _ _ rfl
theorem dX12_call_13 : decode cX12_call 13 = .ok (.aload_n 0, 1) := DX12_call _ _ _ rfl
theorem dX12_call_14 : decode cX12_call 14 = .ok (.getfield 61, 3) := DX12_call _ _ _ rfl
theorem dX12_call_17 : decode cX12_call 17 = .ok (.iload_n 1, 1) := DX12_call _ _ _ rfl
theorem dX12_call_18 : decode cX12_call 18 = .ok (.iaload, 1) := DX12_call _ _ _ rfl
theorem dX12_call_19 : decode cX12_call 19 = .ok (.bipush 40, 2) := DX12_call _ _ _ rfl
theorem dX12_call_21 : decode cX12_call 21 = .ok (.if_icmp .eq 34, 3) := DX12_call _ _ _ rfl
theorem dX12_call_24 : decode cX12_call 24 = .ok (.iload_n 2, 1) := DX12_call _ _ _ rfl
theorem dX12_call_25 : decode cX12_call 25 = .ok (.invokestatic 228, 3) := DX12_call _ _ _ rfl
theorem dX12_call_28 : decode cX12_call 28 = .ok (.ifCond .eq 27, 3) := DX12_call _ _ _ rfl
theorem dX12_call_31 : decode cX12_call 31 = .ok (.iload_n 3, 1) := DX12_call _ _ _ rfl
theorem dX12_call_32 : decode cX12_call 32 = .ok (.iconst 0, 1) := DX12_call _ _ _ rfl
theorem dX12_call_33 : decode cX12_call 33 = .ok (.iconst 4, 1) := DX12_call _ _ _ rfl
theorem dX12_call_34 : decode cX12_call 34 = .ok (.invokestatic 198, 3) := DX12_call _ _ _ rfl
theorem dX12_call_37 : decode cX12_call 37 = .ok (.ifCond .eq 18, 3) := DX12_call _ _ _ rfl
theorem dX12_call_40 : decode cX12_call 40 = .ok (.aload_n 0, 1) := DX12_call _ _ _ rfl
theorem dX12_call_41 : decode cX12_call 41 = .ok (.aload_n 0, 1) := DX12_call _ _ _ rfl
theorem dX12_call_42 : decode cX12_call 42 = .ok (.getfield 58, 3) := DX12_call _ _ _ rfl
theorem dX12_call_45 : decode cX12_call 45 = .ok (.iload_n 1, 1) := DX12_call _ _ _ rfl
theorem dX12_call_46 : decode cX12_call 46 = .ok (.iaload, 1) := DX12_call _ _ _ rfl
theorem dX12_call_47 : decode cX12_call 47 = .ok (.iload 4, 2) := DX12_call _ _ _ rfl
theorem dX12_call_49 : decode cX12_call 49 = .ok (.invokevirtual 237, 3) := DX12_call _ _ _ rfl
theorem dX12_call_52 : decode cX12_call 52 = .ok (.ifCond .ne 5, 3) := DX12_call _ _ _ rfl
theorem dX12_call_57 : decode cX12_call 57 = .ok (.iload_n 3, 1) := DX12_call _ _ _ rfl
theorem dX12_call_58 : decode cX12_call 58 = .ok (.iconst 3, 1) := DX12_call _ _ _ rfl
theorem dX12_call_59 : decode cX12_call 59 = .ok (.if_icmp .eq 27, 3) := DX12_call _ _ _ rfl
theorem dX12_call_86 : decode cX12_call 86 = .ok (.bipush 40, 2) := DX12_call _ _ _ rfl
theorem dX12_call_88 : decode cX12_call 88 = .ok (.iload_n 1, 1) := DX12_call _ _ _ rfl
theorem dX12_call_89 : decode cX12_call 89 = .ok (.imul, 1) := DX12_call _ _ _ rfl
theorem dX12_call_90 : decode cX12_call 90 = .ok (.aload_n 0, 1) := DX12_call _ _ _ rfl
theorem dX12_call_91 : decode cX12_call 91 = .ok (.getfield 61, 3) := DX12_call _ _ _ rfl
theorem dX12_call_94 : decode cX12_call 94 = .ok (.iload_n 1, 1) := DX12_call _ _ _ rfl
theorem dX12_call_95 : decode cX12_call 95 = .ok (.iaload, 1) := DX12_call _ _ _ rfl
theorem dX12_call_96 : decode cX12_call 96 = .ok (.iadd, 1) := DX12_call _ _ _ rfl
theorem dX12_call_97 : decode cX12_call 97 = .ok (.istore 6, 2) := DX12_call _ _ _ rfl
theorem dX12_call_99 : decode cX12_call 99 = .ok (.aload_n 0, 1) := DX12_call _ _ _ rfl
theorem dX12_call_100 : decode cX12_call 100 = .ok (.getfield 64, 3) := DX12_call _ _ _ rfl
theorem dX12_call_103 : decode cX12_call 103 = .ok (.iload 6, 2) := DX12_call _ _ _ rfl
theorem dX12_call_105 : decode cX12_call 105 = .ok (.iload_n 2, 1) := DX12_call _ _ _ rfl
theorem dX12_call_106 : decode cX12_call 106 = .ok (.iastore, 1) := DX12_call _ _ _ rfl
theorem dX12_call_107 : decode cX12_call 107 = .ok (.aload_n 0, 1) := DX12_call _ _ _ rfl
theorem dX12_call_108 : decode cX12_call 108 = .ok (.getfield 67, 3) := DX12_call _ _ _ rfl
theorem dX12_call_111 : decode cX12_call 111 = .ok (.iload 6, 2) := DX12_call _ _ _ rfl
theorem dX12_call_113 : decode cX12_call 113 = .ok (.iload_n 3, 1) := DX12_call _ _ _ rfl
theorem dX12_call_114 : decode cX12_call 114 = .ok (.iastore, 1) := DX12_call _ _ _ rfl
theorem dX12_call_115 : decode cX12_call 115 = .ok (.aload_n 0, 1) := DX12_call _ _ _ rfl
theorem dX12_call_116 : decode cX12_call 116 = .ok (.getfield 70, 3) := DX12_call _ _ _ rfl
theorem dX12_call_119 : decode cX12_call 119 = .ok (.iload 6, 2) := DX12_call _ _ _ rfl
theorem dX12_call_121 : decode cX12_call 121 = .ok (.iload 4, 2) := DX12_call _ _ _ rfl
theorem dX12_call_123 : decode cX12_call 123 = .ok (.iastore, 1) := DX12_call _ _ _ rfl
theorem dX12_call_124 : decode cX12_call 124 = .ok (.aload_n 0, 1) := DX12_call _ _ _ rfl
theorem dX12_call_125 : decode cX12_call 125 = .ok (.getfield 73, 3) := DX12_call _ _ _ rfl
theorem dX12_call_128 : decode cX12_call 128 = .ok (.iload 6, 2) := DX12_call _ _ _ rfl
theorem dX12_call_130 : decode cX12_call 130 = .ok (.iload 5, 2) := DX12_call _ _ _ rfl
theorem dX12_call_132 : decode cX12_call 132 = .ok (.iastore, 1) := DX12_call _ _ _ rfl
theorem dX12_call_133 : decode cX12_call 133 = .ok (.aload_n 0, 1) := DX12_call _ _ _ rfl
theorem dX12_call_134 : decode cX12_call 134 = .ok (.getfield 61, 3) := DX12_call _ _ _ rfl
theorem dX12_call_137 : decode cX12_call 137 = .ok (.iload_n 1, 1) := DX12_call _ _ _ rfl
theorem dX12_call_138 : decode cX12_call 138 = .ok (.dup2, 1) := DX12_call _ _ _ rfl
theorem dX12_call_139 : decode cX12_call 139 = .ok (.iaload, 1) := DX12_call _ _ _ rfl
theorem dX12_call_140 : decode cX12_call 140 = .ok (.iconst 1, 1) := DX12_call _ _ _ rfl
theorem dX12_call_141 : decode cX12_call 141 = .ok (.iadd, 1) := DX12_call _ _ _ rfl
theorem dX12_call_142 : decode cX12_call 142 = .ok (.iastore, 1) := DX12_call _ _ _ rfl
theorem dX12_call_143 : decode cX12_call 143 = .ok (.aload_n 0, 1) := DX12_call _ _ _ rfl
theorem dX12_call_144 : decode cX12_call 144 = .ok (.getfield 61, 3) := DX12_call _ _ _ rfl
theorem dX12_call_147 : decode cX12_call 147 = .ok (.iload_n 1, 1) := DX12_call _ _ _ rfl
theorem dX12_call_148 : decode cX12_call 148 = .ok (.iaload, 1) := DX12_call _ _ _ rfl
theorem dX12_call_149 : decode cX12_call 149 = .ok (.iconst 1, 1) := DX12_call _ _ _ rfl
theorem dX12_call_150 : decode cX12_call 150 = .ok (.isub, 1) := DX12_call _ _ _ rfl
theorem dX12_call_151 : decode cX12_call 151 = .ok (.ireturn, 1) := DX12_call _ _ _ rfl
theorem dX12_call_62 : decode cX12_call 62 = .ok (.aload_n 0, 1) := DX12_call _ _ _ rfl
theorem dX12_call_63 : decode cX12_call 63 = .ok (.aload_n 0, 1) := DX12_call _ _ _ rfl
theorem dX12_call_64 : decode cX12_call 64 = .ok (.getfield 58, 3) := DX12_call _ _ _ rfl
theorem dX12_call_67 : decode cX12_call 67 = .ok (.iload_n 1, 1) := DX12_call _ _ _ rfl
theorem dX12_call_68 : decode cX12_call 68 = .ok (.iaload, 1) := DX12_call _ _ _ rfl
theorem dX12_call_69 : decode cX12_call 69 = .ok (.iload 5, 2) := DX12_call _ _ _ rfl
theorem dX12_call_71 : decode cX12_call 71 = .ok (.invokevirtual 237, 3) := DX12_call _ _ _ rfl
theorem dX12_call_74 : decode cX12_call 74 = .ok (.ifCond .eq 10, 3) := DX12_call _ _ _ rfl
theorem dX12_call_84 : decode cX12_call 84 = .ok (.iconst (-1), 1) := DX12_call _ _ _ rfl
theorem dX12_call_85 : decode cX12_call 85 = .ok (.ireturn, 1) := DX12_call _ _ _ rfl
theorem dX12_call_77 : decode cX12_call 77 = .ok (.iload 4, 2) := DX12_call _ _ _ rfl
theorem dX12_call_79 : decode cX12_call 79 = .ok (.iload 5, 2) := DX12_call _ _ _ rfl
theorem dX12_call_81 : decode cX12_call 81 = .ok (.if_icmp .ne 5, 3) := DX12_call _ _ _ rfl
def F_X12_isPerson (rP : Nat → Int32) (i : Nat) (x : Int32) : Int32 := F_X12_isIn x (0 : Int32) ((rP i) - (1 : Int32))
set_option maxHeartbeats 4000000 in
set_option maxRecDepth 100000 in
theorem K_X12_isPerson (l : Launch) (g : GG) (h0 : Nat) (vs : List Value) (b6 : Nat) (rP : Nat → Int32) (i : Nat) (x : Int32) (hlen : vs.length = 64) (h6_ : vs[6]? = some (.ref b6)) (hi : i < 11) : MetI l g yX12_isPerson cX12_isPerson 3 (some .boolean) 1 0 0 [.ref h0, .int (nI i), .int x] [(h0, .inr (12, vs)), (b6, .inl (g.2.1 1, 11, .inl rP))] (fun r u => r = (F_X12_isPerson rP i x) ∧ u = [(h0, .inr (12, vs)), (b6, .inl (g.2.1 1, 11, .inl rP))]) := by
  refine MetI.of (own := RX12) rfl (by decide) (Nat.le_of_ble_eq_true rfl) ?_
  intro p e s m below meth c A ls args Q hQ X hr hin hW hl
  have hx := X.1
  have hb := X.2.1
  have hl : lv_has ls 3 [(0, .ref h0), (1, .int (nI i)), (2, .int x)] := hl
  refine lv_iload_n (pc := 0) hx hb dX12_isPerson_0 rfl (lv_at hl 2 rfl) ?_
  refine lv_iconst (v := 0) (pc := 1) hx hb dX12_isPerson_1 (by decide) ?_
  refine lv_aload_n (pc := 2) hx hb dX12_isPerson_2 rfl (lv_at hl 0 rfl) ?_
  refine r_get X hW 0 ciX12 6 rfl (by decide) m_1237 rfl h6_ dX12_isPerson_3 ?_
  refine lv_iload_n (pc := 6) hx hb dX12_isPerson_6 rfl (lv_at hl 1 rfl) ?_
  refine r_iald X hW 1 rfl (vp_in_nI (by omega) (by decide)) dX12_isPerson_7 ?_
  refine lv_topi (fun v1 ev1 => ?_)
  obtain rfl : v1 = rP i := ev1.trans (by rw [nI_clamp (by omega)])
  refine lv_iconst (v := 1) (pc := 8) hx hb dX12_isPerson_8 (by decide) ?_
  refine lv_isub (pc := 9) hx hb dX12_isPerson_9 ?_
  refine c_Si (pc := 10) (As := [.int x, .int 0, .int ((rP i) - (1 : Int32))]) (rest := []) (wr := [(h0, .inr (12, vs)), (b6, .inl (g.2.1 1, 11, .inl rP))]) X hW (K_X12_isIn l g x (0 : Int32) ((rP i) - (1 : Int32))) vX12_198 [] [0, 1] rfl rfl rfl rfl rfl rfl hl.1 rfl (Nat.le_of_ble_eq_true rfl) ⟨Nat.le_of_ble_eq_true rfl, Nat.le_of_ble_eq_true rfl⟩ ⟨Nat.le_of_ble_eq_true rfl, Nat.le_of_ble_eq_true rfl⟩ dX12_isPerson_10 (fun r2 u9 H locs hq hW => ?_)
  obtain ⟨rfl, rfl⟩ := hq
  have hW : WD g A s _ _ [(h0, .inr (12, vs)), (b6, .inl (g.2.1 1, 11, .inl rP))] := hW
  have hF : F_X12_isPerson rP i x = F_X12_isIn x (0 : Int32) ((rP i) - (1 : Int32)) := show F_X12_isPerson rP i x = F_X12_isIn x (0 : Int32) ((rP i) - (1 : Int32)) from rfl
  exact e_z (u := [(h0, .inr (12, vs)), (b6, .inl (g.2.1 1, 11, .inl rP))]) X hQ hr (hW) (F_X12_isIn_z ..) [0, 1] rfl rfl (⟨hF.symm, rfl⟩) ⟨Nat.le_of_ble_eq_true rfl, Nat.le_of_ble_eq_true rfl⟩ dX12_isPerson_13

def F_X12_isLine (nv : Nat) (rL : Nat → Int32) (x : Int32) (y : Int32) : Int32 := if F_X12_isValley nv x = 0 then ((0 : Int32)) else (if F_X12_isIn y (0 : Int32) ((rL (tN x)) - (1 : Int32)) = 0 then ((0 : Int32)) else ((1 : Int32)))
set_option maxHeartbeats 4000000 in
set_option maxRecDepth 100000 in
theorem K_X12_isLine (l : Launch) (g : GG) (h0 : Nat) (vs : List Value) (nv : Nat) (b7 : Nat) (rL : Nat → Int32) (x : Int32) (y : Int32) (hlen : vs.length = 64) (h18_ : vs[18]? = some (.int (nI nv))) (h7_ : vs[7]? = some (.ref b7)) (hn : nv ≤ 10) : MetI l g yX12_isLine cX12_isLine 3 (some .boolean) 1 0 0 [.ref h0, .int x, .int y] [(h0, .inr (12, vs)), (b7, .inl (g.2.1 1, 11, .inl rL))] (fun r u => r = (F_X12_isLine nv rL x y) ∧ u = [(h0, .inr (12, vs)), (b7, .inl (g.2.1 1, 11, .inl rL))]) := by
  refine MetI.of (own := RX12) rfl (by decide) (Nat.le_of_ble_eq_true rfl) ?_
  intro p e s m below meth c A ls args Q hQ X hr hin hW hl
  have hx := X.1
  have hb := X.2.1
  have hl : lv_has ls 3 [(0, .ref h0), (1, .int x), (2, .int y)] := hl
  refine lv_aload_n (pc := 0) hx hb dX12_isLine_0 rfl (lv_at hl 0 rfl) ?_
  refine lv_iload_n (pc := 1) hx hb dX12_isLine_1 rfl (lv_at hl 1 rfl) ?_
  refine c_Vi (pc := 2) (As := [.int x]) (rest := []) (wr := [(b7, .inl (g.2.1 1, 11, .inl rL))]) X hW 0 ciX12 rfl (K_X12_isValley l g h0 vs nv x hlen h18_) vX12_221 [0] [1] rfl rfl rfl rfl rfl rfl hl.1 rfl (Nat.le_of_ble_eq_true rfl) ⟨Nat.le_of_ble_eq_true rfl, Nat.le_of_ble_eq_true rfl⟩ ⟨Nat.le_of_ble_eq_true rfl, Nat.le_of_ble_eq_true rfl⟩ dX12_isLine_2 (fun r1 u9 H locs hq hW => ?_)
  obtain ⟨rfl, rfl⟩ := hq
  have hW : WD g A s _ _ [(b7, .inl (g.2.1 1, 11, .inl rL)), (h0, .inr (12, vs))] := hW
  refine lv_if_eq (tgt := 28) (pc := 5) hx hb dX12_isLine_5 rfl (fun c2 => ?_) (fun c2 => ?_)
  · refine lv_iconst (v := 0) (pc := 28) hx hb dX12_isLine_28 (by decide) ?_
    have hF : F_X12_isLine nv rL x y = (0 : Int32) := show F_X12_isLine nv rL x y = (0 : Int32) from by rw [F_X12_isLine, if_pos c2]
    exact e_z (u := [(h0, .inr (12, vs)), (b7, .inl (g.2.1 1, 11, .inl rL))]) X hQ hr (hW) rfl [1, 0] rfl rfl (⟨hF.symm, rfl⟩) ⟨Nat.le_of_ble_eq_true rfl, Nat.le_of_ble_eq_true rfl⟩ dX12_isLine_29
  · have hvx := rv_at (n := nv) (by omega) c2
    have hvx2 := hvx.2
    rw [hvx.1] at hl
    refine lv_iload_n (pc := 8) hx hb dX12_isLine_8 rfl (lv_at hl 2 rfl) ?_
    refine lv_iconst (v := 0) (pc := 9) hx hb dX12_isLine_9 (by decide) ?_
    refine lv_aload_n (pc := 10) hx hb dX12_isLine_10 rfl (lv_at hl 0 rfl) ?_
    refine r_get X hW 1 ciX12 7 rfl (by decide) m_1238 rfl h7_ dX12_isLine_11 ?_
    refine lv_iload_n (pc := 14) hx hb dX12_isLine_14 rfl (lv_at hl 1 rfl) ?_
    refine r_iald X hW 0 rfl (vp_in_nI (by omega) (by decide)) dX12_isLine_15 ?_
    refine lv_topi (fun v5 ev5 => ?_)
    obtain rfl : v5 = rL (tN x) := ev5.trans (by rw [nI_clamp (by omega)])
    refine lv_iconst (v := 1) (pc := 16) hx hb dX12_isLine_16 (by decide) ?_
    refine lv_isub (pc := 17) hx hb dX12_isLine_17 ?_
    refine c_Si (pc := 18) (As := [.int y, .int 0, .int ((rL (tN x)) - (1 : Int32))]) (rest := []) (wr := [(b7, .inl (g.2.1 1, 11, .inl rL)), (h0, .inr (12, vs))]) X hW (K_X12_isIn l g y (0 : Int32) ((rL (tN x)) - (1 : Int32))) vX12_198 [] [0, 1] rfl rfl rfl rfl rfl rfl hl.1 rfl (Nat.le_of_ble_eq_true rfl) ⟨Nat.le_of_ble_eq_true rfl, Nat.le_of_ble_eq_true rfl⟩ ⟨Nat.le_of_ble_eq_true rfl, Nat.le_of_ble_eq_true rfl⟩ dX12_isLine_18 (fun r6 u9 H locs hq hW => ?_)
    obtain ⟨rfl, rfl⟩ := hq
    have hW : WD g A s _ _ [(b7, .inl (g.2.1 1, 11, .inl rL)), (h0, .inr (12, vs))] := hW
    refine lv_if_eq (tgt := 28) (pc := 21) hx hb dX12_isLine_21 rfl (fun c7 => ?_) (fun c7 => ?_)
    · refine lv_iconst (v := 0) (pc := 28) hx hb dX12_isLine_28 (by decide) ?_
      have hF : F_X12_isLine nv rL x y = (0 : Int32) := show F_X12_isLine nv rL x y = (0 : Int32) from by rw [F_X12_isLine, if_neg c2, if_pos c7]
      exact e_z (u := [(h0, .inr (12, vs)), (b7, .inl (g.2.1 1, 11, .inl rL))]) X hQ hr (hW) rfl [1, 0] rfl rfl (⟨hF.symm, rfl⟩) ⟨Nat.le_of_ble_eq_true rfl, Nat.le_of_ble_eq_true rfl⟩ dX12_isLine_29
    · refine lv_iconst (v := 1) (pc := 24) hx hb dX12_isLine_24 (by decide) ?_
      refine lv_goto (tgt := 29) (pc := 25) hx hb dX12_isLine_25 rfl ?_
      have hF : F_X12_isLine nv rL x y = (1 : Int32) := show F_X12_isLine nv rL x y = (1 : Int32) from by rw [F_X12_isLine, if_neg c2, if_neg c7]
      exact e_z (u := [(h0, .inr (12, vs)), (b7, .inl (g.2.1 1, 11, .inl rL))]) X hQ hr (hW) rfl [1, 0] rfl rfl (⟨hF.symm, rfl⟩) ⟨Nat.le_of_ble_eq_true rfl, Nat.le_of_ble_eq_true rfl⟩ dX12_isLine_29

theorem rl_at {x y : Int32} {nv : Nat} {rL : Nat → Int32} (hn : nv ≤ 10) (h : ¬ F_X12_isLine nv rL x y = 0) : (x = nI (tN x) ∧ tN x < nv) ∧ 0 ≤ y ∧ y ≤ rL (tN x) - 1 := by
  unfold F_X12_isLine at h
  by_cases h1 : F_X12_isValley nv x = 0
  · rw [if_pos h1] at h; exact absurd rfl h
  · rw [if_neg h1] at h
    by_cases h2 : F_X12_isIn y 0 (rL (tN x) - 1) = 0
    · rw [if_pos h2] at h; exact absurd rfl h
    · exact ⟨rv_at (by omega) h1, in_at h2⟩
theorem pm1_at {x P : Int32} {n : Nat} (hP : P = nI n) (hn : n < 2 ^ 30) (h0 : 0 ≤ x) (h1 : x ≤ P - 1) : x = nI (tN x) ∧ tN x < n := by
  subst hP
  by_cases hz : n = 0
  · subst hz
    exact absurd (Int32.le_trans h0 h1) (by decide)
  · have e : nI n - 1 = nI (n - 1) := pk_sub (a := n) (b := 1) (by omega)
    rw [e] at h1
    obtain ⟨a, b, c⟩ := bn_at (lo := 0) (hi := n - 1) (by omega) h0 h1
    exact ⟨a, by omega⟩
def F_X12_down (nv : Nat) (rL : Nat → Int32) (rW : Nat → Int32) (x : Int32) (y : Int32) (z : Int32) : Int32 × (Nat → Int32) := if F_X12_isLine nv rL x y = 0 then (((0 : Int32), rW)) else (if z = (-1) then (((1 : Int32), (upd rW (12 * (tN x) + tN y) z))) else (if F_X12_isHour z = 0 then (((0 : Int32), rW)) else (((1 : Int32), (upd rW (12 * (tN x) + tN y) z)))))
set_option maxHeartbeats 4000000 in
set_option maxRecDepth 100000 in
theorem K_X12_down (l : Launch) (g : GG) (h0 : Nat) (vs : List Value) (nv : Nat) (b7 : Nat) (rL : Nat → Int32) (b16 : Nat) (rW : Nat → Int32) (x : Int32) (y : Int32) (z : Int32) (hlen : vs.length = 64) (h18_ : vs[18]? = some (.int (nI nv))) (h7_ : vs[7]? = some (.ref b7)) (h16_ : vs[16]? = some (.ref b16)) (hn : nv ≤ 10) (hLc : ∀ j : Nat, j < nv → rL j = nI (tN (rL j)) ∧ tN (rL j) ≤ 12) : MetI l g yX12_down cX12_down 4 (some .boolean) 2 0 0 [.ref h0, .int x, .int y, .int z] [(h0, .inr (12, vs)), (b7, .inl (g.2.1 1, 11, .inl rL)), (b16, .inl (g.2.1 1, 132, .inl rW))] (fun r u => r = (F_X12_down nv rL rW x y z).1 ∧ u = [(h0, .inr (12, (vs.set 0 (.int 0)))), (b7, .inl (g.2.1 1, 11, .inl rL)), (b16, .inl (g.2.1 1, 132, .inl ((F_X12_down nv rL rW x y z).2)))]) := by
  refine MetI.of (own := RX12) rfl (by decide) (Nat.le_of_ble_eq_true rfl) ?_
  intro p e s m below meth c A ls args Q hQ X hr hin hW hl
  have hx := X.1
  have hb := X.2.1
  have hl : lv_has ls 4 [(0, .ref h0), (1, .int x), (2, .int y), (3, .int z)] := hl
  refine lv_aload_n (pc := 0) hx hb dX12_down_0 rfl (lv_at hl 0 rfl) ?_
  refine lv_iconst (v := 0) (pc := 1) hx hb dX12_down_1 (by decide) ?_
  refine r_put (ws' := [(h0, .inr (12, (vs.set 0 (.int 0)))), (b7, .inl (g.2.1 1, 11, .inl rL)), (b16, .inl (g.2.1 1, 132, .inl rW))]) X hW 0 ciX12 0 rfl (by decide) m_1231 rfl rfl rfl rfl (sv_lt (by decide) hlen) rfl dX12_down_2 (fun H locs hW => ?_)
  refine lv_aload_n (pc := 5) hx hb dX12_down_5 rfl (lv_at hl 0 rfl) ?_
  refine lv_iload_n (pc := 6) hx hb dX12_down_6 rfl (lv_at hl 1 rfl) ?_
  refine lv_iload_n (pc := 7) hx hb dX12_down_7 rfl (lv_at hl 2 rfl) ?_
  refine c_Vi (pc := 8) (As := [.int x, .int y]) (rest := []) (wr := [(b16, .inl (g.2.1 1, 132, .inl rW))]) X hW 0 ciX12 rfl (K_X12_isLine l g h0 (vs.set 0 (.int 0)) nv b7 rL x y (sv_len hlen) (sv_ne (k := 0) (by decide) h18_) (sv_ne (k := 0) (by decide) h7_) (by omega)) vX12_224 [0, 1] [2] rfl rfl rfl rfl rfl rfl hl.1 rfl (Nat.le_of_ble_eq_true rfl) ⟨Nat.le_of_ble_eq_true rfl, Nat.le_of_ble_eq_true rfl⟩ ⟨Nat.le_of_ble_eq_true rfl, Nat.le_of_ble_eq_true rfl⟩ dX12_down_8 (fun r1 u9 H locs hq hW => ?_)
  obtain ⟨rfl, rfl⟩ := hq
  have hW : WD g A s _ _ [(b16, .inl (g.2.1 1, 132, .inl rW)), (h0, .inr (12, (vs.set 0 (.int 0)))), (b7, .inl (g.2.1 1, 11, .inl rL))] := hW
  refine lv_if_eq (tgt := 26) (pc := 11) hx hb dX12_down_11 rfl (fun c2 => ?_) (fun c2 => ?_)
  · refine lv_iconst (v := 0) (pc := 26) hx hb dX12_down_26 (by decide) ?_
    have hF : F_X12_down nv rL rW x y z = ((0 : Int32), rW) := show F_X12_down nv rL rW x y z = ((0 : Int32), rW) from by rw [F_X12_down, if_pos c2]
    exact e_z (u := [(h0, .inr (12, (vs.set 0 (.int 0)))), (b7, .inl (g.2.1 1, 11, .inl rL)), (b16, .inl (g.2.1 1, 132, .inl rW))]) X hQ hr (hW) rfl [1, 2, 0] rfl rfl (⟨(congrArg Prod.fst hF).symm, by rw [hF]⟩) ⟨Nat.le_of_ble_eq_true rfl, Nat.le_of_ble_eq_true rfl⟩ dX12_down_27
  · have q14 := c2
    refine lv_iload_n (pc := 14) hx hb dX12_down_14 rfl (lv_at hl 3 rfl) ?_
    refine lv_iconst (v := (-1)) (pc := 15) hx hb dX12_down_15 (by decide) ?_
    refine lv_icmp_eq (tgt := 28) (pc := 16) hx hb dX12_down_16 rfl (fun c5 => ?_) (fun c5 => ?_)
    · obtain ⟨⟨dx1, dx2⟩, dy1, dy2⟩ := rl_at hn q14
      obtain ⟨ey1, ey2⟩ := pm1_at (hLc (tN x) (by omega)).1 (by have := (hLc (tN x) (by omega)).2; omega) dy1 dy2
      have hL12 := (hLc (tN x) (by omega)).2
      rw [dx1] at hl
      rw [ey1] at hl
      refine lv_aload_n (pc := 28) hx hb dX12_down_28 rfl (lv_at hl 0 rfl) ?_
      refine r_get X hW 1 ciX12 16 rfl (by decide) m_1247 rfl (sv_ne (k := 0) (by decide) h16_) dX12_down_29 ?_
      refine lv_bipush (v := 12) (pc := 32) hx hb dX12_down_32 (by decide) ?_
      refine lv_iload_n (pc := 34) hx hb dX12_down_34 rfl (lv_at hl 1 rfl) ?_
      refine lv_imul (pc := 35) hx hb dX12_down_35 ?_
      refine lv_topi (fun v7 ev7 => ?_)
      obtain rfl : v7 = nI (12 * (tN x)) := ev7.trans (pk_mul 12 (tN x))
      refine lv_iload_n (pc := 36) hx hb dX12_down_36 rfl (lv_at hl 2 rfl) ?_
      refine lv_iadd (pc := 37) hx hb dX12_down_37 ?_
      refine lv_topi (fun v8 ev8 => ?_)
      obtain rfl : v8 = nI (12 * (tN x) + tN y) := ev8.trans (nI_add _ _)
      refine lv_iload_n (pc := 38) hx hb dX12_down_38 rfl (lv_at hl 3 rfl) ?_
      refine r_iast (ws' := [(b16, .inl (g.2.1 1, 132, .inl (upd rW (12 * (tN x) + tN y) z))), (h0, .inr (12, (vs.set 0 (.int 0)))), (b7, .inl (g.2.1 1, 11, .inl rL))]) X hW 0 rfl (vp_in_nI (by omega) (by decide)) (f' := (upd rW (12 * (tN x) + tN y) z)) (by rw [nI_clamp (by omega)]) rfl dX12_down_39 (fun H locs hW => ?_)
      refine lv_iconst (v := 1) (pc := 40) hx hb dX12_down_40 (by decide) ?_
      have hF : F_X12_down nv rL rW x y z = ((1 : Int32), (upd rW (12 * (tN x) + tN y) z)) := show F_X12_down nv rL rW x y z = ((1 : Int32), (upd rW (12 * (tN x) + tN y) z)) from by rw [F_X12_down, if_neg c2, if_pos c5]
      exact e_z (u := [(h0, .inr (12, (vs.set 0 (.int 0)))), (b7, .inl (g.2.1 1, 11, .inl rL)), (b16, .inl (g.2.1 1, 132, .inl (upd rW (12 * (tN x) + tN y) z)))]) X hQ hr (hW) rfl [1, 2, 0] rfl rfl (⟨(congrArg Prod.fst hF).symm, by rw [hF]⟩) ⟨Nat.le_of_ble_eq_true rfl, Nat.le_of_ble_eq_true rfl⟩ dX12_down_41
    · refine lv_iload_n (pc := 19) hx hb dX12_down_19 rfl (lv_at hl 3 rfl) ?_
      refine c_Si (pc := 20) (As := [.int z]) (rest := []) (wr := [(b16, .inl (g.2.1 1, 132, .inl rW)), (h0, .inr (12, (vs.set 0 (.int 0)))), (b7, .inl (g.2.1 1, 11, .inl rL))]) X hW (K_X12_isHour l g z) vX12_228 [] [0, 1, 2] rfl rfl rfl rfl rfl rfl hl.1 rfl (Nat.le_of_ble_eq_true rfl) ⟨Nat.le_of_ble_eq_true rfl, Nat.le_of_ble_eq_true rfl⟩ ⟨Nat.le_of_ble_eq_true rfl, Nat.le_of_ble_eq_true rfl⟩ dX12_down_20 (fun r10 u9 H locs hq hW => ?_)
      obtain ⟨rfl, rfl⟩ := hq
      have hW : WD g A s _ _ [(b16, .inl (g.2.1 1, 132, .inl rW)), (h0, .inr (12, (vs.set 0 (.int 0)))), (b7, .inl (g.2.1 1, 11, .inl rL))] := hW
      refine lv_if_ne (tgt := 28) (pc := 23) hx hb dX12_down_23 rfl (fun c11 => ?_) (fun c11 => ?_)
      · obtain ⟨⟨dx1, dx2⟩, dy1, dy2⟩ := rl_at hn q14
        obtain ⟨ey1, ey2⟩ := pm1_at (hLc (tN x) (by omega)).1 (by have := (hLc (tN x) (by omega)).2; omega) dy1 dy2
        have hL12 := (hLc (tN x) (by omega)).2
        rw [dx1] at hl
        rw [ey1] at hl
        refine lv_aload_n (pc := 28) hx hb dX12_down_28 rfl (lv_at hl 0 rfl) ?_
        refine r_get X hW 1 ciX12 16 rfl (by decide) m_1247 rfl (sv_ne (k := 0) (by decide) h16_) dX12_down_29 ?_
        refine lv_bipush (v := 12) (pc := 32) hx hb dX12_down_32 (by decide) ?_
        refine lv_iload_n (pc := 34) hx hb dX12_down_34 rfl (lv_at hl 1 rfl) ?_
        refine lv_imul (pc := 35) hx hb dX12_down_35 ?_
        refine lv_topi (fun v13 ev13 => ?_)
        obtain rfl : v13 = nI (12 * (tN x)) := ev13.trans (pk_mul 12 (tN x))
        refine lv_iload_n (pc := 36) hx hb dX12_down_36 rfl (lv_at hl 2 rfl) ?_
        refine lv_iadd (pc := 37) hx hb dX12_down_37 ?_
        refine lv_topi (fun v14 ev14 => ?_)
        obtain rfl : v14 = nI (12 * (tN x) + tN y) := ev14.trans (nI_add _ _)
        refine lv_iload_n (pc := 38) hx hb dX12_down_38 rfl (lv_at hl 3 rfl) ?_
        refine r_iast (ws' := [(b16, .inl (g.2.1 1, 132, .inl (upd rW (12 * (tN x) + tN y) z))), (h0, .inr (12, (vs.set 0 (.int 0)))), (b7, .inl (g.2.1 1, 11, .inl rL))]) X hW 0 rfl (vp_in_nI (by omega) (by decide)) (f' := (upd rW (12 * (tN x) + tN y) z)) (by rw [nI_clamp (by omega)]) rfl dX12_down_39 (fun H locs hW => ?_)
        refine lv_iconst (v := 1) (pc := 40) hx hb dX12_down_40 (by decide) ?_
        have hF : F_X12_down nv rL rW x y z = ((1 : Int32), (upd rW (12 * (tN x) + tN y) z)) := show F_X12_down nv rL rW x y z = ((1 : Int32), (upd rW (12 * (tN x) + tN y) z)) from by rw [F_X12_down, if_neg c2, if_neg c5, if_neg c11]
        exact e_z (u := [(h0, .inr (12, (vs.set 0 (.int 0)))), (b7, .inl (g.2.1 1, 11, .inl rL)), (b16, .inl (g.2.1 1, 132, .inl (upd rW (12 * (tN x) + tN y) z)))]) X hQ hr (hW) rfl [1, 2, 0] rfl rfl (⟨(congrArg Prod.fst hF).symm, by rw [hF]⟩) ⟨Nat.le_of_ble_eq_true rfl, Nat.le_of_ble_eq_true rfl⟩ dX12_down_41
      · refine lv_iconst (v := 0) (pc := 26) hx hb dX12_down_26 (by decide) ?_
        have hF : F_X12_down nv rL rW x y z = ((0 : Int32), rW) := show F_X12_down nv rL rW x y z = ((0 : Int32), rW) from by rw [F_X12_down, if_neg c2, if_neg c5, if_pos c11]
        exact e_z (u := [(h0, .inr (12, (vs.set 0 (.int 0)))), (b7, .inl (g.2.1 1, 11, .inl rL)), (b16, .inl (g.2.1 1, 132, .inl rW))]) X hQ hr (hW) rfl [1, 2, 0] rfl rfl (⟨(congrArg Prod.fst hF).symm, by rw [hF]⟩) ⟨Nat.le_of_ble_eq_true rfl, Nat.le_of_ble_eq_true rfl⟩ dX12_down_27

theorem tab_out5 {x : Int32} (h0 : ¬ x = 0) (h1 : ¬ x = 1) (h2 : ¬ x = 2) (h3 : ¬ x = 3) (h4 : ¬ x = 4) : x.toInt < 0 ∨ 4 < x.toInt := by
  by_cases a : x.toInt < 0
  · exact Or.inl a
  · by_cases b : (4 : Int) < x.toInt
    · exact Or.inr b
    · exfalso
      have : x.toInt = 0 ∨ x.toInt = 1 ∨ x.toInt = 2 ∨ x.toInt = 3 ∨ x.toInt = 4 := by omega
      rcases this with h | h | h | h | h
      · exact h0 (Int32.toInt_inj.mp (h.trans (by decide)))
      · exact h1 (Int32.toInt_inj.mp (h.trans (by decide)))
      · exact h2 (Int32.toInt_inj.mp (h.trans (by decide)))
      · exact h3 (Int32.toInt_inj.mp (h.trans (by decide)))
      · exact h4 (Int32.toInt_inj.mp (h.trans (by decide)))
def F_X12_works (rF : Nat → Int32) (rT : Nat → Int32) (rW : Nat → Int32) (k : Nat) (h : Int32) : Int32 := if h < rF k then ((0 : Int32)) else (if rT k < h then ((0 : Int32)) else (if rW k = (-1) then ((1 : Int32)) else (if rW k ≤ h then ((0 : Int32)) else ((1 : Int32)))))
set_option maxHeartbeats 4000000 in
set_option maxRecDepth 100000 in
theorem K_X12_works (l : Launch) (g : GG) (h0 : Nat) (vs : List Value) (b14 : Nat) (rF : Nat → Int32) (b15 : Nat) (rT : Nat → Int32) (b16 : Nat) (rW : Nat → Int32) (k : Nat) (h : Int32) (hlen : vs.length = 64) (h14_ : vs[14]? = some (.ref b14)) (h15_ : vs[15]? = some (.ref b15)) (h16_ : vs[16]? = some (.ref b16)) (hk : k < 132) : MetI l g yX12_works cX12_works 3 (some .boolean) 0 0 0 [.ref h0, .int (nI k), .int h] [(h0, .inr (12, vs)), (b14, .inl (g.2.1 1, 132, .inl rF)), (b15, .inl (g.2.1 1, 132, .inl rT)), (b16, .inl (g.2.1 1, 132, .inl rW))] (fun r u => r = (F_X12_works rF rT rW k h) ∧ u = [(h0, .inr (12, vs)), (b14, .inl (g.2.1 1, 132, .inl rF)), (b15, .inl (g.2.1 1, 132, .inl rT)), (b16, .inl (g.2.1 1, 132, .inl rW))]) := by
  refine MetI.of (own := RX12) rfl (by decide) (Nat.le_of_ble_eq_true rfl) ?_
  intro p e s m below meth c A ls args Q hQ X hr hin hW hl
  have hx := X.1
  have hb := X.2.1
  have hl : lv_has ls 3 [(0, .ref h0), (1, .int (nI k)), (2, .int h)] := hl
  refine lv_iload_n (pc := 0) hx hb dX12_works_0 rfl (lv_at hl 2 rfl) ?_
  refine lv_aload_n (pc := 1) hx hb dX12_works_1 rfl (lv_at hl 0 rfl) ?_
  refine r_get X hW 0 ciX12 14 rfl (by decide) m_1245 rfl h14_ dX12_works_2 ?_
  refine lv_iload_n (pc := 5) hx hb dX12_works_5 rfl (lv_at hl 1 rfl) ?_
  refine r_iald X hW 1 rfl (vp_in_nI (by omega) (by decide)) dX12_works_6 ?_
  refine lv_topi (fun v1 ev1 => ?_)
  obtain rfl : v1 = rF k := ev1.trans (by rw [nI_clamp (by omega)])
  refine lv_icmp_lt (tgt := 44) (pc := 7) hx hb dX12_works_7 rfl (fun c2 => ?_) (fun c2 => ?_)
  · refine lv_iconst (v := 0) (pc := 44) hx hb dX12_works_44 (by decide) ?_
    have hF : F_X12_works rF rT rW k h = (0 : Int32) := show F_X12_works rF rT rW k h = (0 : Int32) from by rw [F_X12_works, if_pos c2]
    exact e_z (u := [(h0, .inr (12, vs)), (b14, .inl (g.2.1 1, 132, .inl rF)), (b15, .inl (g.2.1 1, 132, .inl rT)), (b16, .inl (g.2.1 1, 132, .inl rW))]) X hQ hr (hW) rfl [0, 1, 2, 3] rfl rfl (⟨hF.symm, rfl⟩) ⟨Nat.le_of_ble_eq_true rfl, Nat.le_of_ble_eq_true rfl⟩ dX12_works_45
  · refine lv_iload_n (pc := 10) hx hb dX12_works_10 rfl (lv_at hl 2 rfl) ?_
    refine lv_aload_n (pc := 11) hx hb dX12_works_11 rfl (lv_at hl 0 rfl) ?_
    refine r_get X hW 0 ciX12 15 rfl (by decide) m_1246 rfl h15_ dX12_works_12 ?_
    refine lv_iload_n (pc := 15) hx hb dX12_works_15 rfl (lv_at hl 1 rfl) ?_
    refine r_iald X hW 2 rfl (vp_in_nI (by omega) (by decide)) dX12_works_16 ?_
    refine lv_topi (fun v5 ev5 => ?_)
    obtain rfl : v5 = rT k := ev5.trans (by rw [nI_clamp (by omega)])
    refine lv_icmp_gt (tgt := 44) (pc := 17) hx hb dX12_works_17 rfl (fun c6 => ?_) (fun c6 => ?_)
    · refine lv_iconst (v := 0) (pc := 44) hx hb dX12_works_44 (by decide) ?_
      have hF : F_X12_works rF rT rW k h = (0 : Int32) := show F_X12_works rF rT rW k h = (0 : Int32) from by rw [F_X12_works, if_neg c2, if_pos c6]
      exact e_z (u := [(h0, .inr (12, vs)), (b14, .inl (g.2.1 1, 132, .inl rF)), (b15, .inl (g.2.1 1, 132, .inl rT)), (b16, .inl (g.2.1 1, 132, .inl rW))]) X hQ hr (hW) rfl [0, 1, 2, 3] rfl rfl (⟨hF.symm, rfl⟩) ⟨Nat.le_of_ble_eq_true rfl, Nat.le_of_ble_eq_true rfl⟩ dX12_works_45
    · refine lv_aload_n (pc := 20) hx hb dX12_works_20 rfl (lv_at hl 0 rfl) ?_
      refine r_get X hW 0 ciX12 16 rfl (by decide) m_1247 rfl h16_ dX12_works_21 ?_
      refine lv_iload_n (pc := 24) hx hb dX12_works_24 rfl (lv_at hl 1 rfl) ?_
      refine r_iald X hW 3 rfl (vp_in_nI (by omega) (by decide)) dX12_works_25 ?_
      refine lv_topi (fun v9 ev9 => ?_)
      obtain rfl : v9 = rW k := ev9.trans (by rw [nI_clamp (by omega)])
      refine lv_iconst (v := (-1)) (pc := 26) hx hb dX12_works_26 (by decide) ?_
      refine lv_icmp_eq (tgt := 40) (pc := 27) hx hb dX12_works_27 rfl (fun c10 => ?_) (fun c10 => ?_)
      · refine lv_iconst (v := 1) (pc := 40) hx hb dX12_works_40 (by decide) ?_
        refine lv_goto (tgt := 45) (pc := 41) hx hb dX12_works_41 rfl ?_
        have hF : F_X12_works rF rT rW k h = (1 : Int32) := show F_X12_works rF rT rW k h = (1 : Int32) from by rw [F_X12_works, if_neg c2, if_neg c6, if_pos c10]
        exact e_z (u := [(h0, .inr (12, vs)), (b14, .inl (g.2.1 1, 132, .inl rF)), (b15, .inl (g.2.1 1, 132, .inl rT)), (b16, .inl (g.2.1 1, 132, .inl rW))]) X hQ hr (hW) rfl [0, 1, 2, 3] rfl rfl (⟨hF.symm, rfl⟩) ⟨Nat.le_of_ble_eq_true rfl, Nat.le_of_ble_eq_true rfl⟩ dX12_works_45
      · refine lv_iload_n (pc := 30) hx hb dX12_works_30 rfl (lv_at hl 2 rfl) ?_
        refine lv_aload_n (pc := 31) hx hb dX12_works_31 rfl (lv_at hl 0 rfl) ?_
        refine r_get X hW 0 ciX12 16 rfl (by decide) m_1247 rfl h16_ dX12_works_32 ?_
        refine lv_iload_n (pc := 35) hx hb dX12_works_35 rfl (lv_at hl 1 rfl) ?_
        refine r_iald X hW 3 rfl (vp_in_nI (by omega) (by decide)) dX12_works_36 ?_
        refine lv_topi (fun v13 ev13 => ?_)
        obtain rfl : v13 = rW k := ev13.trans (by rw [nI_clamp (by omega)])
        refine lv_icmp_ge (tgt := 44) (pc := 37) hx hb dX12_works_37 rfl (fun c14 => ?_) (fun c14 => ?_)
        · refine lv_iconst (v := 0) (pc := 44) hx hb dX12_works_44 (by decide) ?_
          have hF : F_X12_works rF rT rW k h = (0 : Int32) := show F_X12_works rF rT rW k h = (0 : Int32) from by rw [F_X12_works, if_neg c2, if_neg c6, if_neg c10, if_pos c14]
          exact e_z (u := [(h0, .inr (12, vs)), (b14, .inl (g.2.1 1, 132, .inl rF)), (b15, .inl (g.2.1 1, 132, .inl rT)), (b16, .inl (g.2.1 1, 132, .inl rW))]) X hQ hr (hW) rfl [0, 1, 2, 3] rfl rfl (⟨hF.symm, rfl⟩) ⟨Nat.le_of_ble_eq_true rfl, Nat.le_of_ble_eq_true rfl⟩ dX12_works_45
        · refine lv_iconst (v := 1) (pc := 40) hx hb dX12_works_40 (by decide) ?_
          refine lv_goto (tgt := 45) (pc := 41) hx hb dX12_works_41 rfl ?_
          have hF : F_X12_works rF rT rW k h = (1 : Int32) := show F_X12_works rF rT rW k h = (1 : Int32) from by rw [F_X12_works, if_neg c2, if_neg c6, if_neg c10, if_neg c14]
          exact e_z (u := [(h0, .inr (12, vs)), (b14, .inl (g.2.1 1, 132, .inl rF)), (b15, .inl (g.2.1 1, 132, .inl rT)), (b16, .inl (g.2.1 1, 132, .inl rW))]) X hQ hr (hW) rfl [0, 1, 2, 3] rfl rfl (⟨hF.symm, rfl⟩) ⟨Nat.le_of_ble_eq_true rfl, Nat.le_of_ble_eq_true rfl⟩ dX12_works_45

def F_X12_joins (rA : Nat → Int32) (rB : Nat → Int32) (rO : Nat → Int32) (k : Nat) (a : Int32) (b : Int32) : Int32 := if rA k = a then (if rB k = b then ((1 : Int32)) else (if rO k = 0 then (if rA k = b then (if rB k = a then ((1 : Int32)) else ((0 : Int32))) else ((0 : Int32))) else ((0 : Int32)))) else (if rO k = 0 then (if rA k = b then (if rB k = a then ((1 : Int32)) else ((0 : Int32))) else ((0 : Int32))) else ((0 : Int32)))
set_option maxHeartbeats 4000000 in
set_option maxRecDepth 100000 in
theorem K_X12_joins (l : Launch) (g : GG) (h0 : Nat) (vs : List Value) (b12 : Nat) (rA : Nat → Int32) (b13 : Nat) (rB : Nat → Int32) (b17 : Nat) (rO : Nat → Int32) (k : Nat) (a : Int32) (b : Int32) (hlen : vs.length = 64) (h12_ : vs[12]? = some (.ref b12)) (h13_ : vs[13]? = some (.ref b13)) (h17_ : vs[17]? = some (.ref b17)) (hk : k < 132) : MetI l g yX12_joins cX12_joins 4 (some .boolean) 0 0 0 [.ref h0, .int (nI k), .int a, .int b] [(h0, .inr (12, vs)), (b12, .inl (g.2.1 1, 132, .inl rA)), (b13, .inl (g.2.1 1, 132, .inl rB)), (b17, .inl (g.2.1 3, 132, .inl rO))] (fun r u => r = (F_X12_joins rA rB rO k a b) ∧ u = [(h0, .inr (12, vs)), (b12, .inl (g.2.1 1, 132, .inl rA)), (b13, .inl (g.2.1 1, 132, .inl rB)), (b17, .inl (g.2.1 3, 132, .inl rO))]) := by
  refine MetI.of (own := RX12) rfl (by decide) (Nat.le_of_ble_eq_true rfl) ?_
  intro p e s m below meth c A ls args Q hQ X hr hin hW hl
  have hx := X.1
  have hb := X.2.1
  have hl : lv_has ls 4 [(0, .ref h0), (1, .int (nI k)), (2, .int a), (3, .int b)] := hl
  refine lv_aload_n (pc := 0) hx hb dX12_joins_0 rfl (lv_at hl 0 rfl) ?_
  refine r_get X hW 0 ciX12 12 rfl (by decide) m_1243 rfl h12_ dX12_joins_1 ?_
  refine lv_iload_n (pc := 4) hx hb dX12_joins_4 rfl (lv_at hl 1 rfl) ?_
  refine r_iald X hW 1 rfl (vp_in_nI (by omega) (by decide)) dX12_joins_5 ?_
  refine lv_topi (fun v1 ev1 => ?_)
  obtain rfl : v1 = rA k := ev1.trans (by rw [nI_clamp (by omega)])
  refine lv_iload_n (pc := 6) hx hb dX12_joins_6 rfl (lv_at hl 2 rfl) ?_
  refine lv_icmp_ne (tgt := 20) (pc := 7) hx hb dX12_joins_7 rfl (fun c2 => ?_) (fun c2 => ?_)
  · refine lv_aload_n (pc := 20) hx hb dX12_joins_20 rfl (lv_at hl 0 rfl) ?_
    refine r_get X hW 0 ciX12 17 rfl (by decide) m_1248 rfl h17_ dX12_joins_21 ?_
    refine lv_iload_n (pc := 24) hx hb dX12_joins_24 rfl (lv_at hl 1 rfl) ?_
    refine r_zald X hW 3 rfl (vp_in_nI (by omega) (by decide)) dX12_joins_25 ?_
    refine lv_topi (fun v4 ev4 => ?_)
    obtain rfl : v4 = rO k := ev4.trans (by rw [nI_clamp (by omega)])
    refine lv_if_ne (tgt := 53) (pc := 26) hx hb dX12_joins_26 rfl (fun c5 => ?_) (fun c5 => ?_)
    · refine lv_iconst (v := 0) (pc := 53) hx hb dX12_joins_53 (by decide) ?_
      have hF : F_X12_joins rA rB rO k a b = (0 : Int32) := show F_X12_joins rA rB rO k a b = (0 : Int32) from by rw [F_X12_joins, if_neg c2, if_neg c5]
      exact e_z (u := [(h0, .inr (12, vs)), (b12, .inl (g.2.1 1, 132, .inl rA)), (b13, .inl (g.2.1 1, 132, .inl rB)), (b17, .inl (g.2.1 3, 132, .inl rO))]) X hQ hr (hW) rfl [0, 1, 2, 3] rfl rfl (⟨hF.symm, rfl⟩) ⟨Nat.le_of_ble_eq_true rfl, Nat.le_of_ble_eq_true rfl⟩ dX12_joins_54
    · refine lv_aload_n (pc := 29) hx hb dX12_joins_29 rfl (lv_at hl 0 rfl) ?_
      refine r_get X hW 0 ciX12 12 rfl (by decide) m_1243 rfl h12_ dX12_joins_30 ?_
      refine lv_iload_n (pc := 33) hx hb dX12_joins_33 rfl (lv_at hl 1 rfl) ?_
      refine r_iald X hW 1 rfl (vp_in_nI (by omega) (by decide)) dX12_joins_34 ?_
      refine lv_topi (fun v8 ev8 => ?_)
      obtain rfl : v8 = rA k := ev8.trans (by rw [nI_clamp (by omega)])
      refine lv_iload_n (pc := 35) hx hb dX12_joins_35 rfl (lv_at hl 3 rfl) ?_
      refine lv_icmp_ne (tgt := 53) (pc := 36) hx hb dX12_joins_36 rfl (fun c9 => ?_) (fun c9 => ?_)
      · refine lv_iconst (v := 0) (pc := 53) hx hb dX12_joins_53 (by decide) ?_
        have hF : F_X12_joins rA rB rO k a b = (0 : Int32) := show F_X12_joins rA rB rO k a b = (0 : Int32) from by rw [F_X12_joins, if_neg c2, if_pos c5, if_neg c9]
        exact e_z (u := [(h0, .inr (12, vs)), (b12, .inl (g.2.1 1, 132, .inl rA)), (b13, .inl (g.2.1 1, 132, .inl rB)), (b17, .inl (g.2.1 3, 132, .inl rO))]) X hQ hr (hW) rfl [0, 1, 2, 3] rfl rfl (⟨hF.symm, rfl⟩) ⟨Nat.le_of_ble_eq_true rfl, Nat.le_of_ble_eq_true rfl⟩ dX12_joins_54
      · refine lv_aload_n (pc := 39) hx hb dX12_joins_39 rfl (lv_at hl 0 rfl) ?_
        refine r_get X hW 0 ciX12 13 rfl (by decide) m_1244 rfl h13_ dX12_joins_40 ?_
        refine lv_iload_n (pc := 43) hx hb dX12_joins_43 rfl (lv_at hl 1 rfl) ?_
        refine r_iald X hW 2 rfl (vp_in_nI (by omega) (by decide)) dX12_joins_44 ?_
        refine lv_topi (fun v12 ev12 => ?_)
        obtain rfl : v12 = rB k := ev12.trans (by rw [nI_clamp (by omega)])
        refine lv_iload_n (pc := 45) hx hb dX12_joins_45 rfl (lv_at hl 2 rfl) ?_
        refine lv_icmp_ne (tgt := 53) (pc := 46) hx hb dX12_joins_46 rfl (fun c13 => ?_) (fun c13 => ?_)
        · refine lv_iconst (v := 0) (pc := 53) hx hb dX12_joins_53 (by decide) ?_
          have hF : F_X12_joins rA rB rO k a b = (0 : Int32) := show F_X12_joins rA rB rO k a b = (0 : Int32) from by rw [F_X12_joins, if_neg c2, if_pos c5, if_pos c9, if_neg c13]
          exact e_z (u := [(h0, .inr (12, vs)), (b12, .inl (g.2.1 1, 132, .inl rA)), (b13, .inl (g.2.1 1, 132, .inl rB)), (b17, .inl (g.2.1 3, 132, .inl rO))]) X hQ hr (hW) rfl [0, 1, 2, 3] rfl rfl (⟨hF.symm, rfl⟩) ⟨Nat.le_of_ble_eq_true rfl, Nat.le_of_ble_eq_true rfl⟩ dX12_joins_54
        · refine lv_iconst (v := 1) (pc := 49) hx hb dX12_joins_49 (by decide) ?_
          refine lv_goto (tgt := 54) (pc := 50) hx hb dX12_joins_50 rfl ?_
          have hF : F_X12_joins rA rB rO k a b = (1 : Int32) := show F_X12_joins rA rB rO k a b = (1 : Int32) from by rw [F_X12_joins, if_neg c2, if_pos c5, if_pos c9, if_pos c13]
          exact e_z (u := [(h0, .inr (12, vs)), (b12, .inl (g.2.1 1, 132, .inl rA)), (b13, .inl (g.2.1 1, 132, .inl rB)), (b17, .inl (g.2.1 3, 132, .inl rO))]) X hQ hr (hW) rfl [0, 1, 2, 3] rfl rfl (⟨hF.symm, rfl⟩) ⟨Nat.le_of_ble_eq_true rfl, Nat.le_of_ble_eq_true rfl⟩ dX12_joins_54
  · refine lv_aload_n (pc := 10) hx hb dX12_joins_10 rfl (lv_at hl 0 rfl) ?_
    refine r_get X hW 0 ciX12 13 rfl (by decide) m_1244 rfl h13_ dX12_joins_11 ?_
    refine lv_iload_n (pc := 14) hx hb dX12_joins_14 rfl (lv_at hl 1 rfl) ?_
    refine r_iald X hW 2 rfl (vp_in_nI (by omega) (by decide)) dX12_joins_15 ?_
    refine lv_topi (fun v17 ev17 => ?_)
    obtain rfl : v17 = rB k := ev17.trans (by rw [nI_clamp (by omega)])
    refine lv_iload_n (pc := 16) hx hb dX12_joins_16 rfl (lv_at hl 3 rfl) ?_
    refine lv_icmp_eq (tgt := 49) (pc := 17) hx hb dX12_joins_17 rfl (fun c18 => ?_) (fun c18 => ?_)
    · refine lv_iconst (v := 1) (pc := 49) hx hb dX12_joins_49 (by decide) ?_
      refine lv_goto (tgt := 54) (pc := 50) hx hb dX12_joins_50 rfl ?_
      have hF : F_X12_joins rA rB rO k a b = (1 : Int32) := show F_X12_joins rA rB rO k a b = (1 : Int32) from by rw [F_X12_joins, if_pos c2, if_pos c18]
      exact e_z (u := [(h0, .inr (12, vs)), (b12, .inl (g.2.1 1, 132, .inl rA)), (b13, .inl (g.2.1 1, 132, .inl rB)), (b17, .inl (g.2.1 3, 132, .inl rO))]) X hQ hr (hW) rfl [0, 1, 2, 3] rfl rfl (⟨hF.symm, rfl⟩) ⟨Nat.le_of_ble_eq_true rfl, Nat.le_of_ble_eq_true rfl⟩ dX12_joins_54
    · refine lv_aload_n (pc := 20) hx hb dX12_joins_20 rfl (lv_at hl 0 rfl) ?_
      refine r_get X hW 0 ciX12 17 rfl (by decide) m_1248 rfl h17_ dX12_joins_21 ?_
      refine lv_iload_n (pc := 24) hx hb dX12_joins_24 rfl (lv_at hl 1 rfl) ?_
      refine r_zald X hW 3 rfl (vp_in_nI (by omega) (by decide)) dX12_joins_25 ?_
      refine lv_topi (fun v21 ev21 => ?_)
      obtain rfl : v21 = rO k := ev21.trans (by rw [nI_clamp (by omega)])
      refine lv_if_ne (tgt := 53) (pc := 26) hx hb dX12_joins_26 rfl (fun c22 => ?_) (fun c22 => ?_)
      · refine lv_iconst (v := 0) (pc := 53) hx hb dX12_joins_53 (by decide) ?_
        have hF : F_X12_joins rA rB rO k a b = (0 : Int32) := show F_X12_joins rA rB rO k a b = (0 : Int32) from by rw [F_X12_joins, if_pos c2, if_neg c18, if_neg c22]
        exact e_z (u := [(h0, .inr (12, vs)), (b12, .inl (g.2.1 1, 132, .inl rA)), (b13, .inl (g.2.1 1, 132, .inl rB)), (b17, .inl (g.2.1 3, 132, .inl rO))]) X hQ hr (hW) rfl [0, 1, 2, 3] rfl rfl (⟨hF.symm, rfl⟩) ⟨Nat.le_of_ble_eq_true rfl, Nat.le_of_ble_eq_true rfl⟩ dX12_joins_54
      · refine lv_aload_n (pc := 29) hx hb dX12_joins_29 rfl (lv_at hl 0 rfl) ?_
        refine r_get X hW 0 ciX12 12 rfl (by decide) m_1243 rfl h12_ dX12_joins_30 ?_
        refine lv_iload_n (pc := 33) hx hb dX12_joins_33 rfl (lv_at hl 1 rfl) ?_
        refine r_iald X hW 1 rfl (vp_in_nI (by omega) (by decide)) dX12_joins_34 ?_
        refine lv_topi (fun v25 ev25 => ?_)
        obtain rfl : v25 = rA k := ev25.trans (by rw [nI_clamp (by omega)])
        refine lv_iload_n (pc := 35) hx hb dX12_joins_35 rfl (lv_at hl 3 rfl) ?_
        refine lv_icmp_ne (tgt := 53) (pc := 36) hx hb dX12_joins_36 rfl (fun c26 => ?_) (fun c26 => ?_)
        · refine lv_iconst (v := 0) (pc := 53) hx hb dX12_joins_53 (by decide) ?_
          have hF : F_X12_joins rA rB rO k a b = (0 : Int32) := show F_X12_joins rA rB rO k a b = (0 : Int32) from by rw [F_X12_joins, if_pos c2, if_neg c18, if_pos c22, if_neg c26]
          exact e_z (u := [(h0, .inr (12, vs)), (b12, .inl (g.2.1 1, 132, .inl rA)), (b13, .inl (g.2.1 1, 132, .inl rB)), (b17, .inl (g.2.1 3, 132, .inl rO))]) X hQ hr (hW) rfl [0, 1, 2, 3] rfl rfl (⟨hF.symm, rfl⟩) ⟨Nat.le_of_ble_eq_true rfl, Nat.le_of_ble_eq_true rfl⟩ dX12_joins_54
        · refine lv_aload_n (pc := 39) hx hb dX12_joins_39 rfl (lv_at hl 0 rfl) ?_
          refine r_get X hW 0 ciX12 13 rfl (by decide) m_1244 rfl h13_ dX12_joins_40 ?_
          refine lv_iload_n (pc := 43) hx hb dX12_joins_43 rfl (lv_at hl 1 rfl) ?_
          refine r_iald X hW 2 rfl (vp_in_nI (by omega) (by decide)) dX12_joins_44 ?_
          refine lv_topi (fun v29 ev29 => ?_)
          obtain rfl : v29 = rB k := ev29.trans (by rw [nI_clamp (by omega)])
          refine lv_iload_n (pc := 45) hx hb dX12_joins_45 rfl (lv_at hl 2 rfl) ?_
          refine lv_icmp_ne (tgt := 53) (pc := 46) hx hb dX12_joins_46 rfl (fun c30 => ?_) (fun c30 => ?_)
          · refine lv_iconst (v := 0) (pc := 53) hx hb dX12_joins_53 (by decide) ?_
            have hF : F_X12_joins rA rB rO k a b = (0 : Int32) := show F_X12_joins rA rB rO k a b = (0 : Int32) from by rw [F_X12_joins, if_pos c2, if_neg c18, if_pos c22, if_pos c26, if_neg c30]
            exact e_z (u := [(h0, .inr (12, vs)), (b12, .inl (g.2.1 1, 132, .inl rA)), (b13, .inl (g.2.1 1, 132, .inl rB)), (b17, .inl (g.2.1 3, 132, .inl rO))]) X hQ hr (hW) rfl [0, 1, 2, 3] rfl rfl (⟨hF.symm, rfl⟩) ⟨Nat.le_of_ble_eq_true rfl, Nat.le_of_ble_eq_true rfl⟩ dX12_joins_54
          · refine lv_iconst (v := 1) (pc := 49) hx hb dX12_joins_49 (by decide) ?_
            refine lv_goto (tgt := 54) (pc := 50) hx hb dX12_joins_50 rfl ?_
            have hF : F_X12_joins rA rB rO k a b = (1 : Int32) := show F_X12_joins rA rB rO k a b = (1 : Int32) from by rw [F_X12_joins, if_pos c2, if_neg c18, if_pos c22, if_pos c26, if_pos c30]
            exact e_z (u := [(h0, .inr (12, vs)), (b12, .inl (g.2.1 1, 132, .inl rA)), (b13, .inl (g.2.1 1, 132, .inl rB)), (b17, .inl (g.2.1 3, 132, .inl rO))]) X hQ hr (hW) rfl [0, 1, 2, 3] rfl rfl (⟨hF.symm, rfl⟩) ⟨Nat.le_of_ble_eq_true rfl, Nat.le_of_ble_eq_true rfl⟩ dX12_joins_54

theorem m1_ne {k : Nat} (h : k < 2 ^ 31) : ¬ (-1 : Int32) = nI k := fun e => by
  have e2 := congrArg Int32.toInt e
  rw [nI_toInt h, show (-1 : Int32).toInt = -1 from by decide] at e2
  omega
def L1_X12_mayCall (rA : Nat → Int32) (rB : Nat → Int32) (rF : Nat → Int32) (rT : Nat → Int32) (rW : Nat → Int32) (rO : Nat → Int32) (lc : Nat) (i : Nat) (a : Nat) (b : Nat) (h : Int32) : Nat → Nat → Int32
  | 0, _ => (0)
  | m_ + 1, j1 => if nI lc ≤ nI j1 then ((0 : Int32)) else (if F_X12_joins rA rB rO (12 * i + j1) (nI a) (nI b) = 0 then (L1_X12_mayCall rA rB rF rT rW rO lc i a b h m_ (j1 + 1) ) else (if F_X12_works rF rT rW (12 * i + j1) h = 0 then (L1_X12_mayCall rA rB rF rT rW rO lc i a b h m_ (j1 + 1) ) else ((1 : Int32))))
def F_X12_mayCall (rA : Nat → Int32) (rB : Nat → Int32) (rF : Nat → Int32) (rT : Nat → Int32) (rW : Nat → Int32) (rO : Nat → Int32) (lc : Nat) (i : Nat) (a : Nat) (b : Nat) (h : Int32) : Int32 := L1_X12_mayCall rA rB rF rT rW rO lc i a b h (lc + 1) 0 
set_option maxHeartbeats 4000000 in
set_option maxRecDepth 100000 in
theorem K_X12_mayCall (l : Launch) (g : GG) (h0 : Nat) (vs : List Value) (b7 : Nat) (rL : Nat → Int32) (b12 : Nat) (rA : Nat → Int32) (b13 : Nat) (rB : Nat → Int32) (b14 : Nat) (rF : Nat → Int32) (b15 : Nat) (rT : Nat → Int32) (b16 : Nat) (rW : Nat → Int32) (b17 : Nat) (rO : Nat → Int32) (lc : Nat) (i : Nat) (a : Nat) (b : Nat) (h : Int32) (hlen : vs.length = 64) (h7_ : vs[7]? = some (.ref b7)) (h12_ : vs[12]? = some (.ref b12)) (h13_ : vs[13]? = some (.ref b13)) (h14_ : vs[14]? = some (.ref b14)) (h15_ : vs[15]? = some (.ref b15)) (h16_ : vs[16]? = some (.ref b16)) (h17_ : vs[17]? = some (.ref b17)) (h19_ : vs[19]? = some (.int (-1))) (h20_ : vs[20]? = some (.int (-1))) (hi : i < 11) (ha : a < 7) (hb : b < 7) (hlc : lc ≤ 12) (hL : rL i = nI lc) : MetI l g yX12_mayCall cX12_mayCall 6 (some .boolean) 1 0 0 [.ref h0, .int (nI i), .int (nI a), .int (nI b), .int h] [(h0, .inr (12, vs)), (b7, .inl (g.2.1 1, 11, .inl rL)), (b12, .inl (g.2.1 1, 132, .inl rA)), (b13, .inl (g.2.1 1, 132, .inl rB)), (b14, .inl (g.2.1 1, 132, .inl rF)), (b15, .inl (g.2.1 1, 132, .inl rT)), (b16, .inl (g.2.1 1, 132, .inl rW)), (b17, .inl (g.2.1 3, 132, .inl rO))] (fun r u => r = (F_X12_mayCall rA rB rF rT rW rO lc i a b h) ∧ u = [(h0, .inr (12, vs)), (b7, .inl (g.2.1 1, 11, .inl rL)), (b12, .inl (g.2.1 1, 132, .inl rA)), (b13, .inl (g.2.1 1, 132, .inl rB)), (b14, .inl (g.2.1 1, 132, .inl rF)), (b15, .inl (g.2.1 1, 132, .inl rT)), (b16, .inl (g.2.1 1, 132, .inl rW)), (b17, .inl (g.2.1 3, 132, .inl rO))]) := by
  refine MetI.of (own := RX12) rfl (by decide) (Nat.le_of_ble_eq_true rfl) ?_
  intro p e s m below meth c A ls args Q hQ X hr hin hW hl
  have hx := X.1
  have hb := X.2.1
  have hl : lv_has ls 6 [(0, .ref h0), (1, .int (nI i)), (2, .int (nI a)), (3, .int (nI b)), (4, .int h)] := hl
  refine lv_aload_n (pc := 0) hx hb dX12_mayCall_0 rfl (lv_at hl 0 rfl) ?_
  refine r_get X hW 0 ciX12 19 rfl (by decide) m_1250 rfl h19_ dX12_mayCall_1 ?_
  refine lv_iload_n (pc := 4) hx hb dX12_mayCall_4 rfl (lv_at hl 2 rfl) ?_
  refine lv_icmp_ne (tgt := 16) (pc := 5) hx hb dX12_mayCall_5 rfl (fun c1 => ?_) (fun c1 => absurd c1 (m1_ne (by omega)))
  refine lv_aload_n (pc := 16) hx hb dX12_mayCall_16 rfl (lv_at hl 0 rfl) ?_
  refine r_get X hW 0 ciX12 19 rfl (by decide) m_1250 rfl h19_ dX12_mayCall_17 ?_
  refine lv_iload_n (pc := 20) hx hb dX12_mayCall_20 rfl (lv_at hl 3 rfl) ?_
  refine lv_icmp_ne (tgt := 34) (pc := 21) hx hb dX12_mayCall_21 rfl (fun c2 => ?_) (fun c2 => absurd c2 (m1_ne (by omega)))
  refine lv_iconst (v := 0) (pc := 34) hx hb dX12_mayCall_34 (by decide) ?_
  refine lv_istore (lv' := [(5, .int 0), (0, .ref h0), (1, .int (nI i)), (2, .int (nI a)), (3, .int (nI b)), (4, .int h)]) (pc := 35) hx hb dX12_mayCall_35 hl (by decide) rfl (fun ls hl => ?_)
  have loop1 : ∀ (fu1 : Nat) (j1 : Nat), (lc < fu1 + j1) → (j1 ≤ lc) → (L1_X12_mayCall rA rB rF rT rW rO lc i a b h fu1 j1 = F_X12_mayCall rA rB rF rT rW rO lc i a b h) → ∀ (H : Heap) (locs : List Loc) (ls : Array Slot), WD g A s H locs [(h0, .inr (12, vs)), (b7, .inl (g.2.1 1, 11, .inl rL)), (b12, .inl (g.2.1 1, 132, .inl rA)), (b13, .inl (g.2.1 1, 132, .inl rB)), (b14, .inl (g.2.1 1, 132, .inl rF)), (b15, .inl (g.2.1 1, 132, .inl rT)), (b16, .inl (g.2.1 1, 132, .inl rW)), (b17, .inl (g.2.1 3, 132, .inl rO))] → lv_has ls 6 [(5, .int (nI j1)), (0, .ref h0), (1, .int (nI i)), (2, .int (nI a)), (3, .int (nI b)), (4, .int h)] → W p l e (RM 1 0 0) s m args below meth c H locs 0 0 Q (F0 m 37 ls []) := by
    intro fu1
    induction fu1 with
    | zero =>
      intro j1 hm1 hj1 hst1
      exact absurd hm1 (by omega)
    | succ fu1 ih1 =>
      intro j1 hm1 hj1 hst1 H locs ls hW hl
      refine lv_iload (pc := 37) hx hb dX12_mayCall_37 (lv_at hl 0 rfl) ?_
      refine lv_aload_n (pc := 39) hx hb dX12_mayCall_39 rfl (lv_at hl 1 rfl) ?_
      refine r_get X hW 0 ciX12 7 rfl (by decide) m_1238 rfl h7_ dX12_mayCall_40 ?_
      refine lv_iload_n (pc := 43) hx hb dX12_mayCall_43 rfl (lv_at hl 2 rfl) ?_
      refine r_iald X hW 1 rfl (vp_in_nI (by omega) (by decide)) dX12_mayCall_44 ?_
      refine lv_topi (fun v3 ev3 => ?_)
      obtain rfl : v3 = rL i := ev3.trans (by rw [nI_clamp (by omega)])
      rw [hL]
      refine lv_icmp_ge (tgt := 88) (pc := 45) hx hb dX12_mayCall_45 rfl (fun c4 => ?_) (fun c4 => ?_)
      · have h5 : lc ≤ j1 := (nI_leI (a := lc) (b := j1) (by omega) (by omega)).mp c4
        refine lv_iconst (v := 0) (pc := 88) hx hb dX12_mayCall_88 (by decide) ?_
        have hF : F_X12_mayCall rA rB rF rT rW rO lc i a b h = (0 : Int32) := hst1.symm.trans (show L1_X12_mayCall rA rB rF rT rW rO lc i a b h (fu1 + 1) j1 = (0 : Int32) from by rw [L1_X12_mayCall, if_pos c4])
        exact e_z (u := [(h0, .inr (12, vs)), (b7, .inl (g.2.1 1, 11, .inl rL)), (b12, .inl (g.2.1 1, 132, .inl rA)), (b13, .inl (g.2.1 1, 132, .inl rB)), (b14, .inl (g.2.1 1, 132, .inl rF)), (b15, .inl (g.2.1 1, 132, .inl rT)), (b16, .inl (g.2.1 1, 132, .inl rW)), (b17, .inl (g.2.1 3, 132, .inl rO))]) X hQ hr (hW) rfl [0, 1, 2, 3, 4, 5, 6, 7] rfl rfl (⟨hF.symm, rfl⟩) ⟨Nat.le_of_ble_eq_true rfl, Nat.le_of_ble_eq_true rfl⟩ dX12_mayCall_89
      · have h6 : ¬ (lc ≤ j1) := fun q => c4 ((nI_leI (a := lc) (b := j1) (by omega) (by omega)).mpr q)
        refine lv_aload_n (pc := 48) hx hb dX12_mayCall_48 rfl (lv_at hl 1 rfl) ?_
        refine lv_bipush (v := 12) (pc := 49) hx hb dX12_mayCall_49 (by decide) ?_
        refine lv_iload_n (pc := 51) hx hb dX12_mayCall_51 rfl (lv_at hl 2 rfl) ?_
        refine lv_imul (pc := 52) hx hb dX12_mayCall_52 ?_
        refine lv_topi (fun v7 ev7 => ?_)
        obtain rfl : v7 = nI (12 * i) := ev7.trans (pk_mul 12 i)
        refine lv_iload (pc := 53) hx hb dX12_mayCall_53 (lv_at hl 0 rfl) ?_
        refine lv_iadd (pc := 55) hx hb dX12_mayCall_55 ?_
        refine lv_topi (fun v8 ev8 => ?_)
        obtain rfl : v8 = nI (12 * i + j1) := ev8.trans (nI_add _ _)
        refine lv_iload_n (pc := 56) hx hb dX12_mayCall_56 rfl (lv_at hl 3 rfl) ?_
        refine lv_iload_n (pc := 57) hx hb dX12_mayCall_57 rfl (lv_at hl 4 rfl) ?_
        refine c_Vi (pc := 58) (As := [.int (nI (12 * i + j1)), .int (nI a), .int (nI b)]) (rest := []) (wr := [(b7, .inl (g.2.1 1, 11, .inl rL)), (b14, .inl (g.2.1 1, 132, .inl rF)), (b15, .inl (g.2.1 1, 132, .inl rT)), (b16, .inl (g.2.1 1, 132, .inl rW))]) X hW 0 ciX12 rfl (K_X12_joins l g h0 vs b12 rA b13 rB b17 rO (12 * i + j1) (nI a) (nI b) hlen h12_ h13_ h17_ (by omega)) vX12_231 [0, 2, 3, 7] [1, 4, 5, 6] rfl rfl rfl rfl rfl rfl hl.1 rfl (Nat.le_of_ble_eq_true rfl) ⟨Nat.le_of_ble_eq_true rfl, Nat.le_of_ble_eq_true rfl⟩ ⟨Nat.le_of_ble_eq_true rfl, Nat.le_of_ble_eq_true rfl⟩ dX12_mayCall_58 (fun r9 u9 H locs hq hW => ?_)
        obtain ⟨rfl, rfl⟩ := hq
        have hW : WD g A s _ _ [(b7, .inl (g.2.1 1, 11, .inl rL)), (b14, .inl (g.2.1 1, 132, .inl rF)), (b15, .inl (g.2.1 1, 132, .inl rT)), (b16, .inl (g.2.1 1, 132, .inl rW)), (h0, .inr (12, vs)), (b12, .inl (g.2.1 1, 132, .inl rA)), (b13, .inl (g.2.1 1, 132, .inl rB)), (b17, .inl (g.2.1 3, 132, .inl rO))] := hW
        refine lv_if_eq (tgt := 82) (pc := 61) hx hb dX12_mayCall_61 rfl (fun c10 => ?_) (fun c10 => ?_)
        · refine lv_iinc (v := nI (j1 + 1)) (lv' := [(5, .int (nI (j1 + 1))), (0, .ref h0), (1, .int (nI i)), (2, .int (nI a)), (3, .int (nI b)), (4, .int h)]) (pc := 82) hx hb dX12_mayCall_82 hl (k := 0) rfl (nI_add j1 1) (by decide) rfl (fun ls hl => ?_)
          refine lv_goto (tgt := 37) (pc := 85) hx hb dX12_mayCall_85 rfl ?_
          have hW : WD g A s _ _ [(h0, .inr (12, vs)), (b7, .inl (g.2.1 1, 11, .inl rL)), (b12, .inl (g.2.1 1, 132, .inl rA)), (b13, .inl (g.2.1 1, 132, .inl rB)), (b14, .inl (g.2.1 1, 132, .inl rF)), (b15, .inl (g.2.1 1, 132, .inl rT)), (b16, .inl (g.2.1 1, 132, .inl rW)), (b17, .inl (g.2.1 3, 132, .inl rO))] := hW.pick [4, 0, 5, 6, 1, 2, 3, 7] rfl rfl
          exact ih1 (j1 + 1)  (by omega) (by omega) ((show L1_X12_mayCall rA rB rF rT rW rO lc i a b h (fu1 + 1) j1 = L1_X12_mayCall rA rB rF rT rW rO lc i a b h fu1 (j1 + 1)  from by rw [L1_X12_mayCall, if_neg c4, if_pos c10]).symm.trans hst1) _ _ _ hW (lv_sub hl [0, 1, 2, 3, 4, 5] rfl)
        · refine lv_aload_n (pc := 64) hx hb dX12_mayCall_64 rfl (lv_at hl 1 rfl) ?_
          refine lv_bipush (v := 12) (pc := 65) hx hb dX12_mayCall_65 (by decide) ?_
          refine lv_iload_n (pc := 67) hx hb dX12_mayCall_67 rfl (lv_at hl 2 rfl) ?_
          refine lv_imul (pc := 68) hx hb dX12_mayCall_68 ?_
          refine lv_topi (fun v13 ev13 => ?_)
          obtain rfl : v13 = nI (12 * i) := ev13.trans (pk_mul 12 i)
          refine lv_iload (pc := 69) hx hb dX12_mayCall_69 (lv_at hl 0 rfl) ?_
          refine lv_iadd (pc := 71) hx hb dX12_mayCall_71 ?_
          refine lv_topi (fun v14 ev14 => ?_)
          obtain rfl : v14 = nI (12 * i + j1) := ev14.trans (nI_add _ _)
          refine lv_iload (pc := 72) hx hb dX12_mayCall_72 (lv_at hl 5 rfl) ?_
          refine c_Vi (pc := 74) (As := [.int (nI (12 * i + j1)), .int h]) (rest := []) (wr := [(b7, .inl (g.2.1 1, 11, .inl rL)), (b12, .inl (g.2.1 1, 132, .inl rA)), (b13, .inl (g.2.1 1, 132, .inl rB)), (b17, .inl (g.2.1 3, 132, .inl rO))]) X hW 4 ciX12 rfl (K_X12_works l g h0 vs b14 rF b15 rT b16 rW (12 * i + j1) h hlen h14_ h15_ h16_ (by omega)) vX12_234 [4, 1, 2, 3] [0, 5, 6, 7] rfl rfl rfl rfl rfl rfl hl.1 rfl (Nat.le_of_ble_eq_true rfl) ⟨Nat.le_of_ble_eq_true rfl, Nat.le_of_ble_eq_true rfl⟩ ⟨Nat.le_of_ble_eq_true rfl, Nat.le_of_ble_eq_true rfl⟩ dX12_mayCall_74 (fun r15 u9 H locs hq hW => ?_)
          obtain ⟨rfl, rfl⟩ := hq
          have hW : WD g A s _ _ [(b7, .inl (g.2.1 1, 11, .inl rL)), (b12, .inl (g.2.1 1, 132, .inl rA)), (b13, .inl (g.2.1 1, 132, .inl rB)), (b17, .inl (g.2.1 3, 132, .inl rO)), (h0, .inr (12, vs)), (b14, .inl (g.2.1 1, 132, .inl rF)), (b15, .inl (g.2.1 1, 132, .inl rT)), (b16, .inl (g.2.1 1, 132, .inl rW))] := hW
          refine lv_if_eq (tgt := 82) (pc := 77) hx hb dX12_mayCall_77 rfl (fun c16 => ?_) (fun c16 => ?_)
          · refine lv_iinc (v := nI (j1 + 1)) (lv' := [(5, .int (nI (j1 + 1))), (0, .ref h0), (1, .int (nI i)), (2, .int (nI a)), (3, .int (nI b)), (4, .int h)]) (pc := 82) hx hb dX12_mayCall_82 hl (k := 0) rfl (nI_add j1 1) (by decide) rfl (fun ls hl => ?_)
            refine lv_goto (tgt := 37) (pc := 85) hx hb dX12_mayCall_85 rfl ?_
            have hW : WD g A s _ _ [(h0, .inr (12, vs)), (b7, .inl (g.2.1 1, 11, .inl rL)), (b12, .inl (g.2.1 1, 132, .inl rA)), (b13, .inl (g.2.1 1, 132, .inl rB)), (b14, .inl (g.2.1 1, 132, .inl rF)), (b15, .inl (g.2.1 1, 132, .inl rT)), (b16, .inl (g.2.1 1, 132, .inl rW)), (b17, .inl (g.2.1 3, 132, .inl rO))] := hW.pick [4, 0, 1, 2, 5, 6, 7, 3] rfl rfl
            exact ih1 (j1 + 1)  (by omega) (by omega) ((show L1_X12_mayCall rA rB rF rT rW rO lc i a b h (fu1 + 1) j1 = L1_X12_mayCall rA rB rF rT rW rO lc i a b h fu1 (j1 + 1)  from by rw [L1_X12_mayCall, if_neg c4, if_neg c10, if_pos c16]).symm.trans hst1) _ _ _ hW (lv_sub hl [0, 1, 2, 3, 4, 5] rfl)
          · refine lv_iconst (v := 1) (pc := 80) hx hb dX12_mayCall_80 (by decide) ?_
            have hF : F_X12_mayCall rA rB rF rT rW rO lc i a b h = (1 : Int32) := hst1.symm.trans (show L1_X12_mayCall rA rB rF rT rW rO lc i a b h (fu1 + 1) j1 = (1 : Int32) from by rw [L1_X12_mayCall, if_neg c4, if_neg c10, if_neg c16])
            exact e_z (u := [(h0, .inr (12, vs)), (b7, .inl (g.2.1 1, 11, .inl rL)), (b12, .inl (g.2.1 1, 132, .inl rA)), (b13, .inl (g.2.1 1, 132, .inl rB)), (b14, .inl (g.2.1 1, 132, .inl rF)), (b15, .inl (g.2.1 1, 132, .inl rT)), (b16, .inl (g.2.1 1, 132, .inl rW)), (b17, .inl (g.2.1 3, 132, .inl rO))]) X hQ hr (hW) rfl [4, 0, 1, 2, 5, 6, 7, 3] rfl rfl (⟨hF.symm, rfl⟩) ⟨Nat.le_of_ble_eq_true rfl, Nat.le_of_ble_eq_true rfl⟩ dX12_mayCall_81
  exact loop1 (lc + 1) 0  (by omega) (by omega) (show F_X12_mayCall rA rB rF rT rW rO lc i a b h = L1_X12_mayCall rA rB rF rT rW rO lc i a b h (lc + 1) 0  from rfl).symm _ _ _ hW (lv_sub hl [0, 1, 2, 3, 4, 5] rfl)

theorem rp1_at {x P : Int32} (hP : P = nI (tN P) ∧ tN P ≤ 7) (h : ¬ F_X12_isIn x 0 (P - 1) = 0) : x = nI (tN x) ∧ tN x < tN P := pm1_at hP.1 (by have := hP.2; omega) (in_at h).1 (in_at h).2
def F_X12_card (nv : Nat) (rP : Nat → Int32) (cD : Nat → Int32) (cL : Nat → Int32) (x : Int32) (y : Int32) (z : Int32) : Int32 × (Nat → Int32) × (Nat → Int32) := if F_X12_isValley nv x = 0 then (((-1 : Int32), cD, cL)) else (if F_X12_isPerson rP (tN x) y = 0 then (((-1 : Int32), cD, cL)) else (if F_X12_isPerson rP (tN x) z = 0 then (((-1 : Int32), cD, cL)) else (if y = z then (((-1 : Int32), cD, cL)) else (if nI (tN (cL (7 * tN x + tN y))) = 6 then (((-1 : Int32), cD, cL)) else (((upd cL (7 * (tN x) + tN y) ((cL (7 * (tN x) + tN y)) + (1 : Int32))) (7 * (tN x) + tN y), (upd cD (6 * (7 * (tN x) + tN y) + tN (cL (7 * tN x + tN y))) z), (upd cL (7 * (tN x) + tN y) ((cL (7 * (tN x) + tN y)) + (1 : Int32)))))))))
set_option maxHeartbeats 4000000 in
set_option maxRecDepth 100000 in
theorem K_X12_card (l : Launch) (g : GG) (h0 : Nat) (vs : List Value) (nv : Nat) (b6 : Nat) (rP : Nat → Int32) (b52 : Nat) (cD : Nat → Int32) (b53 : Nat) (cL : Nat → Int32) (x : Int32) (y : Int32) (z : Int32) (hlen : vs.length = 64) (h18_ : vs[18]? = some (.int (nI nv))) (h6_ : vs[6]? = some (.ref b6)) (h52_ : vs[52]? = some (.ref b52)) (h53_ : vs[53]? = some (.ref b53)) (hn : nv ≤ 10) (hP : ∀ j : Nat, j < nv → rP j = nI (tN (rP j)) ∧ tN (rP j) ≤ 7) (hcL : ∀ j : Nat, j < 77 → cL j = nI (tN (cL j)) ∧ tN (cL j) ≤ 6) : MetI l g yX12_card cX12_card 5 (some .int) 2 0 0 [.ref h0, .int x, .int y, .int z] [(h0, .inr (12, vs)), (b6, .inl (g.2.1 1, 11, .inl rP)), (b52, .inl (g.2.1 1, 420, .inl cD)), (b53, .inl (g.2.1 1, 77, .inl cL))] (fun r u => r = (F_X12_card nv rP cD cL x y z).1 ∧ u = [(h0, .inr (12, (vs.set 0 (.int 0)))), (b6, .inl (g.2.1 1, 11, .inl rP)), (b52, .inl (g.2.1 1, 420, .inl ((F_X12_card nv rP cD cL x y z).2.1))), (b53, .inl (g.2.1 1, 77, .inl ((F_X12_card nv rP cD cL x y z).2.2)))]) := by
  refine MetI.of (own := RX12) rfl (by decide) (Nat.le_of_ble_eq_true rfl) ?_
  intro p e s m below meth c A ls args Q hQ X hr hin hW hl
  have hx := X.1
  have hb := X.2.1
  have hl : lv_has ls 5 [(0, .ref h0), (1, .int x), (2, .int y), (3, .int z)] := hl
  refine lv_aload_n (pc := 0) hx hb dX12_card_0 rfl (lv_at hl 0 rfl) ?_
  refine lv_iconst (v := 0) (pc := 1) hx hb dX12_card_1 (by decide) ?_
  refine r_put (ws' := [(h0, .inr (12, (vs.set 0 (.int 0)))), (b6, .inl (g.2.1 1, 11, .inl rP)), (b52, .inl (g.2.1 1, 420, .inl cD)), (b53, .inl (g.2.1 1, 77, .inl cL))]) X hW 0 ciX12 0 rfl (by decide) m_1231 rfl rfl rfl rfl (sv_lt (by decide) hlen) rfl dX12_card_2 (fun H locs hW => ?_)
  refine lv_aload_n (pc := 5) hx hb dX12_card_5 rfl (lv_at hl 0 rfl) ?_
  refine lv_iload_n (pc := 6) hx hb dX12_card_6 rfl (lv_at hl 1 rfl) ?_
  refine c_Vi (pc := 7) (As := [.int x]) (rest := []) (wr := [(b6, .inl (g.2.1 1, 11, .inl rP)), (b52, .inl (g.2.1 1, 420, .inl cD)), (b53, .inl (g.2.1 1, 77, .inl cL))]) X hW 0 ciX12 rfl (K_X12_isValley l g h0 (vs.set 0 (.int 0)) nv x (sv_len hlen) (sv_ne (k := 0) (by decide) h18_)) vX12_221 [0] [1, 2, 3] rfl rfl rfl rfl rfl rfl hl.1 rfl (Nat.le_of_ble_eq_true rfl) ⟨Nat.le_of_ble_eq_true rfl, Nat.le_of_ble_eq_true rfl⟩ ⟨Nat.le_of_ble_eq_true rfl, Nat.le_of_ble_eq_true rfl⟩ dX12_card_7 (fun r1 u9 H locs hq hW => ?_)
  obtain ⟨rfl, rfl⟩ := hq
  have hW : WD g A s _ _ [(b6, .inl (g.2.1 1, 11, .inl rP)), (b52, .inl (g.2.1 1, 420, .inl cD)), (b53, .inl (g.2.1 1, 77, .inl cL)), (h0, .inr (12, (vs.set 0 (.int 0))))] := hW
  refine lv_if_eq (tgt := 52) (pc := 10) hx hb dX12_card_10 rfl (fun c2 => ?_) (fun c2 => ?_)
  · refine lv_iconst (v := (-1)) (pc := 52) hx hb dX12_card_52 (by decide) ?_
    have hF : F_X12_card nv rP cD cL x y z = ((-1 : Int32), cD, cL) := show F_X12_card nv rP cD cL x y z = ((-1 : Int32), cD, cL) from by rw [F_X12_card, if_pos c2]
    exact e_i (u := [(h0, .inr (12, (vs.set 0 (.int 0)))), (b6, .inl (g.2.1 1, 11, .inl rP)), (b52, .inl (g.2.1 1, 420, .inl cD)), (b53, .inl (g.2.1 1, 77, .inl cL))]) X hQ hr (hW) [3, 0, 1, 2] rfl rfl (⟨(congrArg Prod.fst hF).symm, by rw [hF]⟩) ⟨Nat.le_of_ble_eq_true rfl, Nat.le_of_ble_eq_true rfl⟩ dX12_card_53
  · have hvx := rv_at (n := nv) (by omega) c2
    have hvx2 := hvx.2
    rw [hvx.1] at hl
    refine lv_aload_n (pc := 13) hx hb dX12_card_13 rfl (lv_at hl 0 rfl) ?_
    refine lv_iload_n (pc := 14) hx hb dX12_card_14 rfl (lv_at hl 1 rfl) ?_
    refine lv_iload_n (pc := 15) hx hb dX12_card_15 rfl (lv_at hl 2 rfl) ?_
    refine c_Vi (pc := 16) (As := [.int (nI (tN x)), .int y]) (rest := []) (wr := [(b52, .inl (g.2.1 1, 420, .inl cD)), (b53, .inl (g.2.1 1, 77, .inl cL))]) X hW 3 ciX12 rfl (K_X12_isPerson l g h0 (vs.set 0 (.int 0)) b6 rP (tN x) y (sv_len hlen) (sv_ne (k := 0) (by decide) h6_) (by omega)) vX12_237 [3, 0] [1, 2] rfl rfl rfl rfl rfl rfl hl.1 rfl (Nat.le_of_ble_eq_true rfl) ⟨Nat.le_of_ble_eq_true rfl, Nat.le_of_ble_eq_true rfl⟩ ⟨Nat.le_of_ble_eq_true rfl, Nat.le_of_ble_eq_true rfl⟩ dX12_card_16 (fun r5 u9 H locs hq hW => ?_)
    obtain ⟨rfl, rfl⟩ := hq
    have hW : WD g A s _ _ [(b52, .inl (g.2.1 1, 420, .inl cD)), (b53, .inl (g.2.1 1, 77, .inl cL)), (h0, .inr (12, (vs.set 0 (.int 0)))), (b6, .inl (g.2.1 1, 11, .inl rP))] := hW
    refine lv_if_eq (tgt := 52) (pc := 19) hx hb dX12_card_19 rfl (fun c6 => ?_) (fun c6 => ?_)
    · refine lv_iconst (v := (-1)) (pc := 52) hx hb dX12_card_52 (by decide) ?_
      have hF : F_X12_card nv rP cD cL x y z = ((-1 : Int32), cD, cL) := show F_X12_card nv rP cD cL x y z = ((-1 : Int32), cD, cL) from by rw [F_X12_card, if_neg c2, if_pos c6]
      exact e_i (u := [(h0, .inr (12, (vs.set 0 (.int 0)))), (b6, .inl (g.2.1 1, 11, .inl rP)), (b52, .inl (g.2.1 1, 420, .inl cD)), (b53, .inl (g.2.1 1, 77, .inl cL))]) X hQ hr (hW) [2, 3, 0, 1] rfl rfl (⟨(congrArg Prod.fst hF).symm, by rw [hF]⟩) ⟨Nat.le_of_ble_eq_true rfl, Nat.le_of_ble_eq_true rfl⟩ dX12_card_53
    · have q22 := c6
      refine lv_aload_n (pc := 22) hx hb dX12_card_22 rfl (lv_at hl 0 rfl) ?_
      refine lv_iload_n (pc := 23) hx hb dX12_card_23 rfl (lv_at hl 1 rfl) ?_
      refine lv_iload_n (pc := 24) hx hb dX12_card_24 rfl (lv_at hl 3 rfl) ?_
      refine c_Vi (pc := 25) (As := [.int (nI (tN x)), .int z]) (rest := []) (wr := [(b52, .inl (g.2.1 1, 420, .inl cD)), (b53, .inl (g.2.1 1, 77, .inl cL))]) X hW 2 ciX12 rfl (K_X12_isPerson l g h0 (vs.set 0 (.int 0)) b6 rP (tN x) z (sv_len hlen) (sv_ne (k := 0) (by decide) h6_) (by omega)) vX12_237 [2, 3] [0, 1] rfl rfl rfl rfl rfl rfl hl.1 rfl (Nat.le_of_ble_eq_true rfl) ⟨Nat.le_of_ble_eq_true rfl, Nat.le_of_ble_eq_true rfl⟩ ⟨Nat.le_of_ble_eq_true rfl, Nat.le_of_ble_eq_true rfl⟩ dX12_card_25 (fun r9 u9 H locs hq hW => ?_)
      obtain ⟨rfl, rfl⟩ := hq
      have hW : WD g A s _ _ [(b52, .inl (g.2.1 1, 420, .inl cD)), (b53, .inl (g.2.1 1, 77, .inl cL)), (h0, .inr (12, (vs.set 0 (.int 0)))), (b6, .inl (g.2.1 1, 11, .inl rP))] := hW
      refine lv_if_eq (tgt := 52) (pc := 28) hx hb dX12_card_28 rfl (fun c10 => ?_) (fun c10 => ?_)
      · refine lv_iconst (v := (-1)) (pc := 52) hx hb dX12_card_52 (by decide) ?_
        have hF : F_X12_card nv rP cD cL x y z = ((-1 : Int32), cD, cL) := show F_X12_card nv rP cD cL x y z = ((-1 : Int32), cD, cL) from by rw [F_X12_card, if_neg c2, if_neg c6, if_pos c10]
        exact e_i (u := [(h0, .inr (12, (vs.set 0 (.int 0)))), (b6, .inl (g.2.1 1, 11, .inl rP)), (b52, .inl (g.2.1 1, 420, .inl cD)), (b53, .inl (g.2.1 1, 77, .inl cL))]) X hQ hr (hW) [2, 3, 0, 1] rfl rfl (⟨(congrArg Prod.fst hF).symm, by rw [hF]⟩) ⟨Nat.le_of_ble_eq_true rfl, Nat.le_of_ble_eq_true rfl⟩ dX12_card_53
      · refine lv_iload_n (pc := 31) hx hb dX12_card_31 rfl (lv_at hl 2 rfl) ?_
        refine lv_iload_n (pc := 32) hx hb dX12_card_32 rfl (lv_at hl 3 rfl) ?_
        refine lv_icmp_eq (tgt := 52) (pc := 33) hx hb dX12_card_33 rfl (fun c13 => ?_) (fun c13 => ?_)
        · refine lv_iconst (v := (-1)) (pc := 52) hx hb dX12_card_52 (by decide) ?_
          have hF : F_X12_card nv rP cD cL x y z = ((-1 : Int32), cD, cL) := show F_X12_card nv rP cD cL x y z = ((-1 : Int32), cD, cL) from by rw [F_X12_card, if_neg c2, if_neg c6, if_neg c10, if_pos c13]
          exact e_i (u := [(h0, .inr (12, (vs.set 0 (.int 0)))), (b6, .inl (g.2.1 1, 11, .inl rP)), (b52, .inl (g.2.1 1, 420, .inl cD)), (b53, .inl (g.2.1 1, 77, .inl cL))]) X hQ hr (hW) [2, 3, 0, 1] rfl rfl (⟨(congrArg Prod.fst hF).symm, by rw [hF]⟩) ⟨Nat.le_of_ble_eq_true rfl, Nat.le_of_ble_eq_true rfl⟩ dX12_card_53
        · obtain ⟨ey1, ey2⟩ := rp1_at (hP (tN x) hvx2) q22
          have hP7 := (hP (tN x) hvx2).2
          rw [ey1] at hl
          refine lv_aload_n (pc := 36) hx hb dX12_card_36 rfl (lv_at hl 0 rfl) ?_
          refine r_get X hW 2 ciX12 53 rfl (by decide) m_1280 rfl (sv_ne (k := 0) (by decide) h53_) dX12_card_37 ?_
          refine lv_bipush (v := 7) (pc := 40) hx hb dX12_card_40 (by decide) ?_
          refine lv_iload_n (pc := 42) hx hb dX12_card_42 rfl (lv_at hl 1 rfl) ?_
          refine lv_imul (pc := 43) hx hb dX12_card_43 ?_
          refine lv_topi (fun v16 ev16 => ?_)
          obtain rfl : v16 = nI (7 * (tN x)) := ev16.trans (pk_mul 7 (tN x))
          refine lv_iload_n (pc := 44) hx hb dX12_card_44 rfl (lv_at hl 2 rfl) ?_
          refine lv_iadd (pc := 45) hx hb dX12_card_45 ?_
          refine lv_topi (fun v17 ev17 => ?_)
          obtain rfl : v17 = nI (7 * (tN x) + tN y) := ev17.trans (nI_add _ _)
          refine r_iald X hW 1 rfl (vp_in_nI (by omega) (by decide)) dX12_card_46 ?_
          refine lv_topi (fun v18 ev18 => ?_)
          obtain rfl : v18 = cL (7 * (tN x) + tN y) := ev18.trans (by rw [nI_clamp (by omega)])
          have ec := hcL (7 * tN x + tN y) (by omega)
          rw [ec.1]
          refine lv_bipush (v := 6) (pc := 47) hx hb dX12_card_47 (by decide) ?_
          refine lv_icmp_ne (tgt := 54) (pc := 49) hx hb dX12_card_49 rfl (fun c19 => ?_) (fun c19 => ?_)
          · have h20 : ¬ ((tN (cL (7 * tN x + tN y))) = 6) := fun q => c19 ((nI_eq (a := (tN (cL (7 * tN x + tN y)))) (b := 6) (by omega) (by omega)).mpr q)
            have ec5 := (hcL (7 * tN x + tN y) (by omega)).2
            have ec6 : ¬ tN (cL (7 * tN x + tN y)) = 6 := fun q => c19 (congrArg nI q)
            refine lv_bipush (v := 7) (pc := 54) hx hb dX12_card_54 (by decide) ?_
            refine lv_iload_n (pc := 56) hx hb dX12_card_56 rfl (lv_at hl 1 rfl) ?_
            refine lv_imul (pc := 57) hx hb dX12_card_57 ?_
            refine lv_topi (fun v21 ev21 => ?_)
            obtain rfl : v21 = nI (7 * (tN x)) := ev21.trans (pk_mul 7 (tN x))
            refine lv_iload_n (pc := 58) hx hb dX12_card_58 rfl (lv_at hl 2 rfl) ?_
            refine lv_iadd (pc := 59) hx hb dX12_card_59 ?_
            refine lv_topi (fun v22 ev22 => ?_)
            obtain rfl : v22 = nI (7 * (tN x) + tN y) := ev22.trans (nI_add _ _)
            refine lv_istore (lv' := [(4, .int (nI (7 * (tN x) + tN y))), (0, .ref h0), (1, .int (nI (tN x))), (2, .int (nI (tN y))), (3, .int z)]) (pc := 60) hx hb dX12_card_60 hl (by decide) rfl (fun ls hl => ?_)
            refine lv_aload_n (pc := 62) hx hb dX12_card_62 rfl (lv_at hl 1 rfl) ?_
            refine r_get X hW 2 ciX12 52 rfl (by decide) m_1279 rfl (sv_ne (k := 0) (by decide) h52_) dX12_card_63 ?_
            refine lv_bipush (v := 6) (pc := 66) hx hb dX12_card_66 (by decide) ?_
            refine lv_iload (pc := 68) hx hb dX12_card_68 (lv_at hl 0 rfl) ?_
            refine lv_imul (pc := 70) hx hb dX12_card_70 ?_
            refine lv_topi (fun v23 ev23 => ?_)
            obtain rfl : v23 = nI (6 * (7 * (tN x) + tN y)) := ev23.trans (pk_mul 6 (7 * (tN x) + tN y))
            refine lv_aload_n (pc := 71) hx hb dX12_card_71 rfl (lv_at hl 1 rfl) ?_
            refine r_get X hW 2 ciX12 53 rfl (by decide) m_1280 rfl (sv_ne (k := 0) (by decide) h53_) dX12_card_72 ?_
            refine lv_iload (pc := 75) hx hb dX12_card_75 (lv_at hl 0 rfl) ?_
            refine r_iald X hW 1 rfl (vp_in_nI (by omega) (by decide)) dX12_card_77 ?_
            refine lv_topi (fun v24 ev24 => ?_)
            obtain rfl : v24 = cL (7 * (tN x) + tN y) := ev24.trans (by rw [nI_clamp (by omega)])
            rw [(hcL (7 * tN x + tN y) (by omega)).1]
            refine lv_iadd (pc := 78) hx hb dX12_card_78 ?_
            refine lv_topi (fun v25 ev25 => ?_)
            obtain rfl : v25 = nI (6 * (7 * (tN x) + tN y) + tN (cL (7 * tN x + tN y))) := ev25.trans (nI_add _ _)
            refine lv_iload_n (pc := 79) hx hb dX12_card_79 rfl (lv_at hl 4 rfl) ?_
            refine r_iast (ws' := [(b52, .inl (g.2.1 1, 420, .inl (upd cD (6 * (7 * (tN x) + tN y) + tN (cL (7 * tN x + tN y))) z))), (b53, .inl (g.2.1 1, 77, .inl cL)), (h0, .inr (12, (vs.set 0 (.int 0)))), (b6, .inl (g.2.1 1, 11, .inl rP))]) X hW 0 rfl (vp_in_nI (by omega) (by decide)) (f' := (upd cD (6 * (7 * (tN x) + tN y) + tN (cL (7 * tN x + tN y))) z)) (by rw [nI_clamp (by omega)]) rfl dX12_card_80 (fun H locs hW => ?_)
            refine lv_aload_n (pc := 81) hx hb dX12_card_81 rfl (lv_at hl 1 rfl) ?_
            refine r_get X hW 2 ciX12 53 rfl (by decide) m_1280 rfl (sv_ne (k := 0) (by decide) h53_) dX12_card_82 ?_
            refine lv_iload (pc := 85) hx hb dX12_card_85 (lv_at hl 0 rfl) ?_
            refine lv_dup2_11 (pc := 87) hx hb dX12_card_87 rfl rfl ?_
            refine r_iald X hW 1 rfl (vp_in_nI (by omega) (by decide)) dX12_card_88 ?_
            refine lv_topi (fun v26 ev26 => ?_)
            obtain rfl : v26 = cL (7 * (tN x) + tN y) := ev26.trans (by rw [nI_clamp (by omega)])
            refine lv_iconst (v := 1) (pc := 89) hx hb dX12_card_89 (by decide) ?_
            refine lv_iadd (pc := 90) hx hb dX12_card_90 ?_
            refine r_iast (ws' := [(b52, .inl (g.2.1 1, 420, .inl (upd cD (6 * (7 * (tN x) + tN y) + tN (cL (7 * tN x + tN y))) z))), (b53, .inl (g.2.1 1, 77, .inl (upd cL (7 * (tN x) + tN y) ((cL (7 * (tN x) + tN y)) + (1 : Int32))))), (h0, .inr (12, (vs.set 0 (.int 0)))), (b6, .inl (g.2.1 1, 11, .inl rP))]) X hW 1 rfl (vp_in_nI (by omega) (by decide)) (f' := (upd cL (7 * (tN x) + tN y) ((cL (7 * (tN x) + tN y)) + (1 : Int32)))) (by rw [nI_clamp (by omega)]) rfl dX12_card_91 (fun H locs hW => ?_)
            refine lv_aload_n (pc := 92) hx hb dX12_card_92 rfl (lv_at hl 1 rfl) ?_
            refine r_get X hW 2 ciX12 53 rfl (by decide) m_1280 rfl (sv_ne (k := 0) (by decide) h53_) dX12_card_93 ?_
            refine lv_iload (pc := 96) hx hb dX12_card_96 (lv_at hl 0 rfl) ?_
            refine r_iald X hW 1 rfl (vp_in_nI (by omega) (by decide)) dX12_card_98 ?_
            refine lv_topi (fun v27 ev27 => ?_)
            obtain rfl : v27 = (upd cL (7 * (tN x) + tN y) ((cL (7 * (tN x) + tN y)) + (1 : Int32))) (7 * (tN x) + tN y) := ev27.trans (by rw [nI_clamp (by omega)])
            have hF : F_X12_card nv rP cD cL x y z = ((upd cL (7 * (tN x) + tN y) ((cL (7 * (tN x) + tN y)) + (1 : Int32))) (7 * (tN x) + tN y), (upd cD (6 * (7 * (tN x) + tN y) + tN (cL (7 * tN x + tN y))) z), (upd cL (7 * (tN x) + tN y) ((cL (7 * (tN x) + tN y)) + (1 : Int32)))) := show F_X12_card nv rP cD cL x y z = ((upd cL (7 * (tN x) + tN y) ((cL (7 * (tN x) + tN y)) + (1 : Int32))) (7 * (tN x) + tN y), (upd cD (6 * (7 * (tN x) + tN y) + tN (cL (7 * tN x + tN y))) z), (upd cL (7 * (tN x) + tN y) ((cL (7 * (tN x) + tN y)) + (1 : Int32)))) from by rw [F_X12_card, if_neg c2, if_neg c6, if_neg c10, if_neg c13, if_neg c19]
            exact e_i (u := [(h0, .inr (12, (vs.set 0 (.int 0)))), (b6, .inl (g.2.1 1, 11, .inl rP)), (b52, .inl (g.2.1 1, 420, .inl (upd cD (6 * (7 * (tN x) + tN y) + tN (cL (7 * tN x + tN y))) z))), (b53, .inl (g.2.1 1, 77, .inl (upd cL (7 * (tN x) + tN y) ((cL (7 * (tN x) + tN y)) + (1 : Int32)))))]) X hQ hr (hW) [2, 3, 0, 1] rfl rfl (⟨(congrArg Prod.fst hF).symm, by rw [hF]⟩) ⟨Nat.le_of_ble_eq_true rfl, Nat.le_of_ble_eq_true rfl⟩ dX12_card_99
          · have h28 : (tN (cL (7 * tN x + tN y))) = 6 := (nI_eq (a := (tN (cL (7 * tN x + tN y)))) (b := 6) (by omega) (by omega)).mp c19
            refine lv_iconst (v := (-1)) (pc := 52) hx hb dX12_card_52 (by decide) ?_
            have hF : F_X12_card nv rP cD cL x y z = ((-1 : Int32), cD, cL) := show F_X12_card nv rP cD cL x y z = ((-1 : Int32), cD, cL) from by rw [F_X12_card, if_neg c2, if_neg c6, if_neg c10, if_neg c13, if_pos c19]
            exact e_i (u := [(h0, .inr (12, (vs.set 0 (.int 0)))), (b6, .inl (g.2.1 1, 11, .inl rP)), (b52, .inl (g.2.1 1, 420, .inl cD)), (b53, .inl (g.2.1 1, 77, .inl cL))]) X hQ hr (hW) [2, 3, 0, 1] rfl rfl (⟨(congrArg Prod.fst hF).symm, by rw [hF]⟩) ⟨Nat.le_of_ble_eq_true rfl, Nat.le_of_ble_eq_true rfl⟩ dX12_card_53

def F_X12_tale (nv : Nat) (rP : Nat → Int32) (tA : Nat → Int32) (x : Int32) (y : Int32) (z : Int32) (t : Int32) : Int32 × (Nat → Int32) := if F_X12_isValley nv x = 0 then (((0 : Int32), tA)) else (if F_X12_isNews y = 0 then (((0 : Int32), tA)) else (if F_X12_isPerson rP (tN x) z = 0 then (((0 : Int32), tA)) else (if F_X12_isIn t (-1 : Int32) (24 : Int32) = 0 then (((0 : Int32), tA)) else (((1 : Int32), (upd tA (7 * (4 * (tN x) + tN y) + tN z) t))))))
set_option maxHeartbeats 4000000 in
set_option maxRecDepth 100000 in
theorem K_X12_tale (l : Launch) (g : GG) (h0 : Nat) (vs : List Value) (nv : Nat) (b6 : Nat) (rP : Nat → Int32) (b61 : Nat) (tA : Nat → Int32) (x : Int32) (y : Int32) (z : Int32) (t : Int32) (hlen : vs.length = 64) (h18_ : vs[18]? = some (.int (nI nv))) (h6_ : vs[6]? = some (.ref b6)) (h61_ : vs[61]? = some (.ref b61)) (hn : nv ≤ 10) (hP : ∀ j : Nat, j < nv → rP j = nI (tN (rP j)) ∧ tN (rP j) ≤ 7) : MetI l g yX12_tale cX12_tale 5 (some .boolean) 2 0 0 [.ref h0, .int x, .int y, .int z, .int t] [(h0, .inr (12, vs)), (b6, .inl (g.2.1 1, 11, .inl rP)), (b61, .inl (g.2.1 1, 308, .inl tA))] (fun r u => r = (F_X12_tale nv rP tA x y z t).1 ∧ u = [(h0, .inr (12, (vs.set 0 (.int 0)))), (b6, .inl (g.2.1 1, 11, .inl rP)), (b61, .inl (g.2.1 1, 308, .inl ((F_X12_tale nv rP tA x y z t).2)))]) := by
  refine MetI.of (own := RX12) rfl (by decide) (Nat.le_of_ble_eq_true rfl) ?_
  intro p e s m below meth c A ls args Q hQ X hr hin hW hl
  have hx := X.1
  have hb := X.2.1
  have hl : lv_has ls 5 [(0, .ref h0), (1, .int x), (2, .int y), (3, .int z), (4, .int t)] := hl
  refine lv_aload_n (pc := 0) hx hb dX12_tale_0 rfl (lv_at hl 0 rfl) ?_
  refine lv_iconst (v := 0) (pc := 1) hx hb dX12_tale_1 (by decide) ?_
  refine r_put (ws' := [(h0, .inr (12, (vs.set 0 (.int 0)))), (b6, .inl (g.2.1 1, 11, .inl rP)), (b61, .inl (g.2.1 1, 308, .inl tA))]) X hW 0 ciX12 0 rfl (by decide) m_1231 rfl rfl rfl rfl (sv_lt (by decide) hlen) rfl dX12_tale_2 (fun H locs hW => ?_)
  refine lv_aload_n (pc := 5) hx hb dX12_tale_5 rfl (lv_at hl 0 rfl) ?_
  refine lv_iload_n (pc := 6) hx hb dX12_tale_6 rfl (lv_at hl 1 rfl) ?_
  refine c_Vi (pc := 7) (As := [.int x]) (rest := []) (wr := [(b6, .inl (g.2.1 1, 11, .inl rP)), (b61, .inl (g.2.1 1, 308, .inl tA))]) X hW 0 ciX12 rfl (K_X12_isValley l g h0 (vs.set 0 (.int 0)) nv x (sv_len hlen) (sv_ne (k := 0) (by decide) h18_)) vX12_221 [0] [1, 2] rfl rfl rfl rfl rfl rfl hl.1 rfl (Nat.le_of_ble_eq_true rfl) ⟨Nat.le_of_ble_eq_true rfl, Nat.le_of_ble_eq_true rfl⟩ ⟨Nat.le_of_ble_eq_true rfl, Nat.le_of_ble_eq_true rfl⟩ dX12_tale_7 (fun r1 u9 H locs hq hW => ?_)
  obtain ⟨rfl, rfl⟩ := hq
  have hW : WD g A s _ _ [(b6, .inl (g.2.1 1, 11, .inl rP)), (b61, .inl (g.2.1 1, 308, .inl tA)), (h0, .inr (12, (vs.set 0 (.int 0))))] := hW
  refine lv_if_eq (tgt := 40) (pc := 10) hx hb dX12_tale_10 rfl (fun c2 => ?_) (fun c2 => ?_)
  · refine lv_iconst (v := 0) (pc := 40) hx hb dX12_tale_40 (by decide) ?_
    have hF : F_X12_tale nv rP tA x y z t = ((0 : Int32), tA) := show F_X12_tale nv rP tA x y z t = ((0 : Int32), tA) from by rw [F_X12_tale, if_pos c2]
    exact e_z (u := [(h0, .inr (12, (vs.set 0 (.int 0)))), (b6, .inl (g.2.1 1, 11, .inl rP)), (b61, .inl (g.2.1 1, 308, .inl tA))]) X hQ hr (hW) rfl [2, 0, 1] rfl rfl (⟨(congrArg Prod.fst hF).symm, by rw [hF]⟩) ⟨Nat.le_of_ble_eq_true rfl, Nat.le_of_ble_eq_true rfl⟩ dX12_tale_41
  · have hvx := rv_at (n := nv) (by omega) c2
    have hvx2 := hvx.2
    rw [hvx.1] at hl
    refine lv_iload_n (pc := 13) hx hb dX12_tale_13 rfl (lv_at hl 2 rfl) ?_
    refine c_Si (pc := 14) (As := [.int y]) (rest := []) (wr := [(b6, .inl (g.2.1 1, 11, .inl rP)), (b61, .inl (g.2.1 1, 308, .inl tA)), (h0, .inr (12, (vs.set 0 (.int 0))))]) X hW (K_X12_isNews l g y) vX12_308 [] [0, 1, 2] rfl rfl rfl rfl rfl rfl hl.1 rfl (Nat.le_of_ble_eq_true rfl) ⟨Nat.le_of_ble_eq_true rfl, Nat.le_of_ble_eq_true rfl⟩ ⟨Nat.le_of_ble_eq_true rfl, Nat.le_of_ble_eq_true rfl⟩ dX12_tale_14 (fun r5 u9 H locs hq hW => ?_)
    obtain ⟨rfl, rfl⟩ := hq
    have hW : WD g A s _ _ [(b6, .inl (g.2.1 1, 11, .inl rP)), (b61, .inl (g.2.1 1, 308, .inl tA)), (h0, .inr (12, (vs.set 0 (.int 0))))] := hW
    refine lv_if_eq (tgt := 40) (pc := 17) hx hb dX12_tale_17 rfl (fun c6 => ?_) (fun c6 => ?_)
    · refine lv_iconst (v := 0) (pc := 40) hx hb dX12_tale_40 (by decide) ?_
      have hF : F_X12_tale nv rP tA x y z t = ((0 : Int32), tA) := show F_X12_tale nv rP tA x y z t = ((0 : Int32), tA) from by rw [F_X12_tale, if_neg c2, if_pos c6]
      exact e_z (u := [(h0, .inr (12, (vs.set 0 (.int 0)))), (b6, .inl (g.2.1 1, 11, .inl rP)), (b61, .inl (g.2.1 1, 308, .inl tA))]) X hQ hr (hW) rfl [2, 0, 1] rfl rfl (⟨(congrArg Prod.fst hF).symm, by rw [hF]⟩) ⟨Nat.le_of_ble_eq_true rfl, Nat.le_of_ble_eq_true rfl⟩ dX12_tale_41
    · have q20 := c6
      refine lv_aload_n (pc := 20) hx hb dX12_tale_20 rfl (lv_at hl 0 rfl) ?_
      refine lv_iload_n (pc := 21) hx hb dX12_tale_21 rfl (lv_at hl 1 rfl) ?_
      refine lv_iload_n (pc := 22) hx hb dX12_tale_22 rfl (lv_at hl 3 rfl) ?_
      refine c_Vi (pc := 23) (As := [.int (nI (tN x)), .int z]) (rest := []) (wr := [(b61, .inl (g.2.1 1, 308, .inl tA))]) X hW 2 ciX12 rfl (K_X12_isPerson l g h0 (vs.set 0 (.int 0)) b6 rP (tN x) z (sv_len hlen) (sv_ne (k := 0) (by decide) h6_) (by omega)) vX12_237 [2, 0] [1] rfl rfl rfl rfl rfl rfl hl.1 rfl (Nat.le_of_ble_eq_true rfl) ⟨Nat.le_of_ble_eq_true rfl, Nat.le_of_ble_eq_true rfl⟩ ⟨Nat.le_of_ble_eq_true rfl, Nat.le_of_ble_eq_true rfl⟩ dX12_tale_23 (fun r9 u9 H locs hq hW => ?_)
      obtain ⟨rfl, rfl⟩ := hq
      have hW : WD g A s _ _ [(b61, .inl (g.2.1 1, 308, .inl tA)), (h0, .inr (12, (vs.set 0 (.int 0)))), (b6, .inl (g.2.1 1, 11, .inl rP))] := hW
      refine lv_if_eq (tgt := 40) (pc := 26) hx hb dX12_tale_26 rfl (fun c10 => ?_) (fun c10 => ?_)
      · refine lv_iconst (v := 0) (pc := 40) hx hb dX12_tale_40 (by decide) ?_
        have hF : F_X12_tale nv rP tA x y z t = ((0 : Int32), tA) := show F_X12_tale nv rP tA x y z t = ((0 : Int32), tA) from by rw [F_X12_tale, if_neg c2, if_neg c6, if_pos c10]
        exact e_z (u := [(h0, .inr (12, (vs.set 0 (.int 0)))), (b6, .inl (g.2.1 1, 11, .inl rP)), (b61, .inl (g.2.1 1, 308, .inl tA))]) X hQ hr (hW) rfl [1, 2, 0] rfl rfl (⟨(congrArg Prod.fst hF).symm, by rw [hF]⟩) ⟨Nat.le_of_ble_eq_true rfl, Nat.le_of_ble_eq_true rfl⟩ dX12_tale_41
      · have q29 := c10
        refine lv_iload (pc := 29) hx hb dX12_tale_29 (lv_at hl 4 rfl) ?_
        refine lv_iconst (v := (-1)) (pc := 31) hx hb dX12_tale_31 (by decide) ?_
        refine lv_bipush (v := 24) (pc := 32) hx hb dX12_tale_32 (by decide) ?_
        refine c_Si (pc := 34) (As := [.int t, .int (-1), .int 24]) (rest := []) (wr := [(b61, .inl (g.2.1 1, 308, .inl tA)), (h0, .inr (12, (vs.set 0 (.int 0)))), (b6, .inl (g.2.1 1, 11, .inl rP))]) X hW (K_X12_isIn l g t (-1 : Int32) (24 : Int32)) vX12_198 [] [0, 1, 2] rfl rfl rfl rfl rfl rfl hl.1 rfl (Nat.le_of_ble_eq_true rfl) ⟨Nat.le_of_ble_eq_true rfl, Nat.le_of_ble_eq_true rfl⟩ ⟨Nat.le_of_ble_eq_true rfl, Nat.le_of_ble_eq_true rfl⟩ dX12_tale_34 (fun r13 u9 H locs hq hW => ?_)
        obtain ⟨rfl, rfl⟩ := hq
        have hW : WD g A s _ _ [(b61, .inl (g.2.1 1, 308, .inl tA)), (h0, .inr (12, (vs.set 0 (.int 0)))), (b6, .inl (g.2.1 1, 11, .inl rP))] := hW
        refine lv_if_ne (tgt := 42) (pc := 37) hx hb dX12_tale_37 rfl (fun c14 => ?_) (fun c14 => ?_)
        · obtain ⟨en0, en1⟩ := in_at (show ¬ F_X12_isIn y 0 3 = 0 from q20)
          obtain ⟨en2, en3, en4⟩ := bn_at (lo := 0) (hi := 3) (by omega) en0 en1
          rw [en2] at hl
          obtain ⟨ez1, ez2⟩ := rp1_at (hP (tN x) hvx2) q29
          have hP7 := (hP (tN x) hvx2).2
          rw [ez1] at hl
          refine lv_aload_n (pc := 42) hx hb dX12_tale_42 rfl (lv_at hl 0 rfl) ?_
          refine r_get X hW 1 ciX12 61 rfl (by decide) m_1288 rfl (sv_ne (k := 0) (by decide) h61_) dX12_tale_43 ?_
          refine lv_bipush (v := 7) (pc := 46) hx hb dX12_tale_46 (by decide) ?_
          refine lv_iconst (v := 4) (pc := 48) hx hb dX12_tale_48 (by decide) ?_
          refine lv_iload_n (pc := 49) hx hb dX12_tale_49 rfl (lv_at hl 1 rfl) ?_
          refine lv_imul (pc := 50) hx hb dX12_tale_50 ?_
          refine lv_topi (fun v16 ev16 => ?_)
          obtain rfl : v16 = nI (4 * (tN x)) := ev16.trans (pk_mul 4 (tN x))
          refine lv_iload_n (pc := 51) hx hb dX12_tale_51 rfl (lv_at hl 2 rfl) ?_
          refine lv_iadd (pc := 52) hx hb dX12_tale_52 ?_
          refine lv_topi (fun v17 ev17 => ?_)
          obtain rfl : v17 = nI (4 * (tN x) + tN y) := ev17.trans (nI_add _ _)
          refine lv_imul (pc := 53) hx hb dX12_tale_53 ?_
          refine lv_topi (fun v18 ev18 => ?_)
          obtain rfl : v18 = nI (7 * (4 * (tN x) + tN y)) := ev18.trans (pk_mul 7 (4 * (tN x) + tN y))
          refine lv_iload_n (pc := 54) hx hb dX12_tale_54 rfl (lv_at hl 3 rfl) ?_
          refine lv_iadd (pc := 55) hx hb dX12_tale_55 ?_
          refine lv_topi (fun v19 ev19 => ?_)
          obtain rfl : v19 = nI (7 * (4 * (tN x) + tN y) + tN z) := ev19.trans (nI_add _ _)
          refine lv_iload (pc := 56) hx hb dX12_tale_56 (lv_at hl 4 rfl) ?_
          refine r_iast (ws' := [(b61, .inl (g.2.1 1, 308, .inl (upd tA (7 * (4 * (tN x) + tN y) + tN z) t))), (h0, .inr (12, (vs.set 0 (.int 0)))), (b6, .inl (g.2.1 1, 11, .inl rP))]) X hW 0 rfl (vp_in_nI (by omega) (by decide)) (f' := (upd tA (7 * (4 * (tN x) + tN y) + tN z) t)) (by rw [nI_clamp (by omega)]) rfl dX12_tale_58 (fun H locs hW => ?_)
          refine lv_iconst (v := 1) (pc := 59) hx hb dX12_tale_59 (by decide) ?_
          have hF : F_X12_tale nv rP tA x y z t = ((1 : Int32), (upd tA (7 * (4 * (tN x) + tN y) + tN z) t)) := show F_X12_tale nv rP tA x y z t = ((1 : Int32), (upd tA (7 * (4 * (tN x) + tN y) + tN z) t)) from by rw [F_X12_tale, if_neg c2, if_neg c6, if_neg c10, if_neg c14]
          exact e_z (u := [(h0, .inr (12, (vs.set 0 (.int 0)))), (b6, .inl (g.2.1 1, 11, .inl rP)), (b61, .inl (g.2.1 1, 308, .inl (upd tA (7 * (4 * (tN x) + tN y) + tN z) t)))]) X hQ hr (hW) rfl [1, 2, 0] rfl rfl (⟨(congrArg Prod.fst hF).symm, by rw [hF]⟩) ⟨Nat.le_of_ble_eq_true rfl, Nat.le_of_ble_eq_true rfl⟩ dX12_tale_60
        · refine lv_iconst (v := 0) (pc := 40) hx hb dX12_tale_40 (by decide) ?_
          have hF : F_X12_tale nv rP tA x y z t = ((0 : Int32), tA) := show F_X12_tale nv rP tA x y z t = ((0 : Int32), tA) from by rw [F_X12_tale, if_neg c2, if_neg c6, if_neg c10, if_pos c14]
          exact e_z (u := [(h0, .inr (12, (vs.set 0 (.int 0)))), (b6, .inl (g.2.1 1, 11, .inl rP)), (b61, .inl (g.2.1 1, 308, .inl tA))]) X hQ hr (hW) rfl [1, 2, 0] rfl rfl (⟨(congrArg Prod.fst hF).symm, by rw [hF]⟩) ⟨Nat.le_of_ble_eq_true rfl, Nat.le_of_ble_eq_true rfl⟩ dX12_tale_41

def F_X4_hasRoom (pc : Nat) : Int32 := if 40 ≤ nI pc then ((0 : Int32)) else ((1 : Int32))
set_option maxHeartbeats 4000000 in
set_option maxRecDepth 100000 in
theorem K_X4_hasRoom (l : Launch) (g : GG) (q : Nat) (q0 : Nat) (q1 : Nat) (q2 : Nat) (q3 : Nat) (q4 : Nat) (q5 : Nat) (q6 : Nat) (pv : Nat) (pc : Nat) (hp40 : pc ≤ 40) : MetI l g yX4_hasRoom cX4_hasRoom 1 (some .boolean) 0 0 0 [.ref q] [(q, .inr (4, [.ref pv, .int (nI pc), .ref q0, .ref q1, .ref q2, .ref q3, .ref q4, .ref q5, .ref q6]))] (fun r u => r = (F_X4_hasRoom pc) ∧ u = [(q, .inr (4, [.ref pv, .int (nI pc), .ref q0, .ref q1, .ref q2, .ref q3, .ref q4, .ref q5, .ref q6]))]) := by
  refine MetI.of (own := RX4) rfl (by decide) (Nat.le_of_ble_eq_true rfl) ?_
  intro p e s m below meth c A ls args Q hQ X hr hin hW hl
  have hx := X.1
  have hb := X.2.1
  have hl : lv_has ls 1 [(0, .ref q)] := hl
  refine lv_aload_n (pc := 0) hx hb dX4_hasRoom_0 rfl (lv_at hl 0 rfl) ?_
  refine r_get X hW 0 ciX4 1 rfl (by decide) m_569 rfl rfl dX4_hasRoom_1 ?_
  refine lv_bipush (v := 40) (pc := 4) hx hb dX4_hasRoom_4 (by decide) ?_
  refine lv_icmp_ge (tgt := 13) (pc := 6) hx hb dX4_hasRoom_6 rfl (fun c1 => ?_) (fun c1 => ?_)
  · have h2 : 40 ≤ pc := (nI_leI (a := 40) (b := pc) (by omega) (by omega)).mp c1
    refine lv_iconst (v := 0) (pc := 13) hx hb dX4_hasRoom_13 (by decide) ?_
    have hF : F_X4_hasRoom pc = (0 : Int32) := show F_X4_hasRoom pc = (0 : Int32) from by rw [F_X4_hasRoom, if_pos c1]
    exact e_z (u := [(q, .inr (4, [.ref pv, .int (nI pc), .ref q0, .ref q1, .ref q2, .ref q3, .ref q4, .ref q5, .ref q6]))]) X hQ hr (hW) rfl [0] rfl rfl (⟨hF.symm, rfl⟩) ⟨Nat.le_of_ble_eq_true rfl, Nat.le_of_ble_eq_true rfl⟩ dX4_hasRoom_14
  · have h3 : ¬ (40 ≤ pc) := fun q => c1 ((nI_leI (a := 40) (b := pc) (by omega) (by omega)).mpr q)
    refine lv_iconst (v := 1) (pc := 9) hx hb dX4_hasRoom_9 (by decide) ?_
    refine lv_goto (tgt := 14) (pc := 10) hx hb dX4_hasRoom_10 rfl ?_
    have hF : F_X4_hasRoom pc = (1 : Int32) := show F_X4_hasRoom pc = (1 : Int32) from by rw [F_X4_hasRoom, if_neg c1]
    exact e_z (u := [(q, .inr (4, [.ref pv, .int (nI pc), .ref q0, .ref q1, .ref q2, .ref q3, .ref q4, .ref q5, .ref q6]))]) X hQ hr (hW) rfl [0] rfl rfl (⟨hF.symm, rfl⟩) ⟨Nat.le_of_ble_eq_true rfl, Nat.le_of_ble_eq_true rfl⟩ dX4_hasRoom_14

theorem hroom_at {n : Nat} (hn : n < 2 ^ 31) (h : ¬ F_X4_hasRoom n = 0) : n < 40 := by
  unfold F_X4_hasRoom at h
  by_cases h1 : (40 : Int32) ≤ nI n
  · rw [if_pos h1] at h; exact absurd rfl h
  · exact Nat.not_le.mp fun q => h1 ((nI_leI (a := 40) (b := n) (by omega) hn).mpr q)
theorem nI_dec1 {i : Nat} : nI (i + 1) - 1 = nI i := pk_sub (a := i + 1) (b := 1) (by omega)
def L1_X4_append (pc : Nat) (pH : Nat → Int32) (pK : Nat → Int32) (pA : Nat → Int32) (pB : Nat → Int32) (ho : Int32) (ki : Int32) (on : Int32) (ot : Int32) : Nat → (Nat → Int32) → Int32 × Int32 × (Nat → Int32) × (Nat → Int32) × (Nat → Int32) × (Nat → Int32) × (Nat → Int32)
  | 0, fq4_1 => (nI (pc + 1 - 1), nI (pc + 1), (upd pH pc ho), (upd pK pc ki), (upd pA pc on), (upd pB pc ot), (upd fq4_1 0 (nI pc)))
  | j1 + 1, fq4_1 => if (upd pH pc ho) (tN (fq4_1 j1)) ≤ ho then ((nI (pc + 1 - 1), nI (pc + 1), (upd pH pc ho), (upd pK pc ki), (upd pA pc on), (upd pB pc ot), (upd fq4_1 (j1 + 1) (nI pc)))) else (L1_X4_append pc pH pK pA pB ho ki on ot j1 (upd fq4_1 (j1 + 1) (fq4_1 (j1 + 1 - 1))))
def F_X4_append (pc : Nat) (pH : Nat → Int32) (pK : Nat → Int32) (pA : Nat → Int32) (pB : Nat → Int32) (oE : Nat → Int32) (ho : Int32) (ki : Int32) (on : Int32) (ot : Int32) : Int32 × Int32 × (Nat → Int32) × (Nat → Int32) × (Nat → Int32) × (Nat → Int32) × (Nat → Int32) := if F_X4_hasRoom pc = 0 then (((-1 : Int32), nI pc, pH, pK, pA, pB, oE)) else (L1_X4_append pc pH pK pA pB ho ki on ot pc oE)
set_option maxHeartbeats 4000000 in
set_option maxRecDepth 100000 in
theorem K_X4_append (l : Launch) (g : GG) (q : Nat) (q0 : Nat) (q1 : Nat) (q2 : Nat) (q3 : Nat) (q4 : Nat) (q5 : Nat) (q6 : Nat) (pv : Nat) (pc : Nat) (pH : Nat → Int32) (pK : Nat → Int32) (pA : Nat → Int32) (pB : Nat → Int32) (oE : Nat → Int32) (ho : Int32) (ki : Int32) (on : Int32) (ot : Int32) (hp40 : pc ≤ 40) (hoe : ∀ j : Nat, j < 40 → oE j = nI (tN (oE j)) ∧ tN (oE j) < 40) : MetI l g yX4_append cX4_append 6 (some .int) 1 0 0 [.ref q, .int ho, .int ki, .int on, .int ot] [(q, .inr (4, [.ref pv, .int (nI pc), .ref q0, .ref q1, .ref q2, .ref q3, .ref q4, .ref q5, .ref q6])), (q0, .inl (g.2.1 1, 40, .inl pH)), (q1, .inl (g.2.1 1, 40, .inl pK)), (q2, .inl (g.2.1 1, 40, .inl pA)), (q3, .inl (g.2.1 1, 40, .inl pB)), (q4, .inl (g.2.1 1, 40, .inl oE))] (fun r u => r = (F_X4_append pc pH pK pA pB oE ho ki on ot).1 ∧ u = [(q, .inr (4, [.ref pv, .int ((F_X4_append pc pH pK pA pB oE ho ki on ot).2.1), .ref q0, .ref q1, .ref q2, .ref q3, .ref q4, .ref q5, .ref q6])), (q0, .inl (g.2.1 1, 40, .inl ((F_X4_append pc pH pK pA pB oE ho ki on ot).2.2.1))), (q1, .inl (g.2.1 1, 40, .inl ((F_X4_append pc pH pK pA pB oE ho ki on ot).2.2.2.1))), (q2, .inl (g.2.1 1, 40, .inl ((F_X4_append pc pH pK pA pB oE ho ki on ot).2.2.2.2.1))), (q3, .inl (g.2.1 1, 40, .inl ((F_X4_append pc pH pK pA pB oE ho ki on ot).2.2.2.2.2.1))), (q4, .inl (g.2.1 1, 40, .inl ((F_X4_append pc pH pK pA pB oE ho ki on ot).2.2.2.2.2.2)))]) := by
  refine MetI.of (own := RX4) rfl (by decide) (Nat.le_of_ble_eq_true rfl) ?_
  intro p e s m below meth c A ls args Q hQ X hr hin hW hl
  have hx := X.1
  have hb := X.2.1
  have hl : lv_has ls 6 [(0, .ref q), (1, .int ho), (2, .int ki), (3, .int on), (4, .int ot)] := hl
  have hpc : True := trivial
  refine lv_aload_n (pc := 0) hx hb dX4_append_0 rfl (lv_at hl 0 rfl) ?_
  refine c_Vi (pc := 1) (As := []) (rest := []) (wr := [(q0, .inl (g.2.1 1, 40, .inl pH)), (q1, .inl (g.2.1 1, 40, .inl pK)), (q2, .inl (g.2.1 1, 40, .inl pA)), (q3, .inl (g.2.1 1, 40, .inl pB)), (q4, .inl (g.2.1 1, 40, .inl oE))]) X hW 0 ciX4 rfl (K_X4_hasRoom l g q q0 q1 q2 q3 q4 q5 q6 pv pc (by omega)) vX4_41 [0] [1, 2, 3, 4, 5] rfl rfl rfl rfl rfl rfl hl.1 rfl (Nat.le_of_ble_eq_true rfl) ⟨Nat.le_of_ble_eq_true rfl, Nat.le_of_ble_eq_true rfl⟩ ⟨Nat.le_of_ble_eq_true rfl, Nat.le_of_ble_eq_true rfl⟩ dX4_append_1 (fun r1 u9 H locs hq hW => ?_)
  obtain ⟨rfl, rfl⟩ := hq
  have hW : WD g A s _ _ [(q0, .inl (g.2.1 1, 40, .inl pH)), (q1, .inl (g.2.1 1, 40, .inl pK)), (q2, .inl (g.2.1 1, 40, .inl pA)), (q3, .inl (g.2.1 1, 40, .inl pB)), (q4, .inl (g.2.1 1, 40, .inl oE)), (q, .inr (4, [.ref pv, .int (nI pc), .ref q0, .ref q1, .ref q2, .ref q3, .ref q4, .ref q5, .ref q6]))] := hW
  refine lv_if_ne (tgt := 9) (pc := 4) hx hb dX4_append_4 rfl (fun c2 => ?_) (fun c2 => ?_)
  · have h40 := hroom_at (n := pc) (by omega) c2
    refine lv_aload_n (pc := 9) hx hb dX4_append_9 rfl (lv_at hl 0 rfl) ?_
    refine r_get X hW 5 ciX4 2 rfl (by decide) m_572 rfl rfl dX4_append_10 ?_
    refine lv_aload_n (pc := 13) hx hb dX4_append_13 rfl (lv_at hl 0 rfl) ?_
    refine r_get X hW 5 ciX4 1 rfl (by decide) m_569 rfl rfl dX4_append_14 ?_
    refine lv_iload_n (pc := 17) hx hb dX4_append_17 rfl (lv_at hl 1 rfl) ?_
    refine r_iast (ws' := [(q0, .inl (g.2.1 1, 40, .inl (upd pH pc ho))), (q1, .inl (g.2.1 1, 40, .inl pK)), (q2, .inl (g.2.1 1, 40, .inl pA)), (q3, .inl (g.2.1 1, 40, .inl pB)), (q4, .inl (g.2.1 1, 40, .inl oE)), (q, .inr (4, [.ref pv, .int (nI pc), .ref q0, .ref q1, .ref q2, .ref q3, .ref q4, .ref q5, .ref q6]))]) X hW 0 rfl (vp_in_nI (by omega) (by decide)) (f' := (upd pH pc ho)) (by rw [nI_clamp (by omega)]) rfl dX4_append_18 (fun H locs hW => ?_)
    refine lv_aload_n (pc := 19) hx hb dX4_append_19 rfl (lv_at hl 0 rfl) ?_
    refine r_get X hW 5 ciX4 3 rfl (by decide) m_574 rfl rfl dX4_append_20 ?_
    refine lv_aload_n (pc := 23) hx hb dX4_append_23 rfl (lv_at hl 0 rfl) ?_
    refine r_get X hW 5 ciX4 1 rfl (by decide) m_569 rfl rfl dX4_append_24 ?_
    refine lv_iload_n (pc := 27) hx hb dX4_append_27 rfl (lv_at hl 2 rfl) ?_
    refine r_iast (ws' := [(q0, .inl (g.2.1 1, 40, .inl (upd pH pc ho))), (q1, .inl (g.2.1 1, 40, .inl (upd pK pc ki))), (q2, .inl (g.2.1 1, 40, .inl pA)), (q3, .inl (g.2.1 1, 40, .inl pB)), (q4, .inl (g.2.1 1, 40, .inl oE)), (q, .inr (4, [.ref pv, .int (nI pc), .ref q0, .ref q1, .ref q2, .ref q3, .ref q4, .ref q5, .ref q6]))]) X hW 1 rfl (vp_in_nI (by omega) (by decide)) (f' := (upd pK pc ki)) (by rw [nI_clamp (by omega)]) rfl dX4_append_28 (fun H locs hW => ?_)
    refine lv_aload_n (pc := 29) hx hb dX4_append_29 rfl (lv_at hl 0 rfl) ?_
    refine r_get X hW 5 ciX4 4 rfl (by decide) m_576 rfl rfl dX4_append_30 ?_
    refine lv_aload_n (pc := 33) hx hb dX4_append_33 rfl (lv_at hl 0 rfl) ?_
    refine r_get X hW 5 ciX4 1 rfl (by decide) m_569 rfl rfl dX4_append_34 ?_
    refine lv_iload_n (pc := 37) hx hb dX4_append_37 rfl (lv_at hl 3 rfl) ?_
    refine r_iast (ws' := [(q0, .inl (g.2.1 1, 40, .inl (upd pH pc ho))), (q1, .inl (g.2.1 1, 40, .inl (upd pK pc ki))), (q2, .inl (g.2.1 1, 40, .inl (upd pA pc on))), (q3, .inl (g.2.1 1, 40, .inl pB)), (q4, .inl (g.2.1 1, 40, .inl oE)), (q, .inr (4, [.ref pv, .int (nI pc), .ref q0, .ref q1, .ref q2, .ref q3, .ref q4, .ref q5, .ref q6]))]) X hW 2 rfl (vp_in_nI (by omega) (by decide)) (f' := (upd pA pc on)) (by rw [nI_clamp (by omega)]) rfl dX4_append_38 (fun H locs hW => ?_)
    refine lv_aload_n (pc := 39) hx hb dX4_append_39 rfl (lv_at hl 0 rfl) ?_
    refine r_get X hW 5 ciX4 5 rfl (by decide) m_578 rfl rfl dX4_append_40 ?_
    refine lv_aload_n (pc := 43) hx hb dX4_append_43 rfl (lv_at hl 0 rfl) ?_
    refine r_get X hW 5 ciX4 1 rfl (by decide) m_569 rfl rfl dX4_append_44 ?_
    refine lv_iload (pc := 47) hx hb dX4_append_47 (lv_at hl 4 rfl) ?_
    refine r_iast (ws' := [(q0, .inl (g.2.1 1, 40, .inl (upd pH pc ho))), (q1, .inl (g.2.1 1, 40, .inl (upd pK pc ki))), (q2, .inl (g.2.1 1, 40, .inl (upd pA pc on))), (q3, .inl (g.2.1 1, 40, .inl (upd pB pc ot))), (q4, .inl (g.2.1 1, 40, .inl oE)), (q, .inr (4, [.ref pv, .int (nI pc), .ref q0, .ref q1, .ref q2, .ref q3, .ref q4, .ref q5, .ref q6]))]) X hW 3 rfl (vp_in_nI (by omega) (by decide)) (f' := (upd pB pc ot)) (by rw [nI_clamp (by omega)]) rfl dX4_append_49 (fun H locs hW => ?_)
    refine lv_aload_n (pc := 50) hx hb dX4_append_50 rfl (lv_at hl 0 rfl) ?_
    refine r_get X hW 5 ciX4 1 rfl (by decide) m_569 rfl rfl dX4_append_51 ?_
    refine lv_istore (lv' := [(5, .int (nI pc)), (0, .ref q), (1, .int ho), (2, .int ki), (3, .int on), (4, .int ot)]) (pc := 54) hx hb dX4_append_54 hl (by decide) rfl (fun ls hl => ?_)
    have loop1 : ∀ (j1 : Nat) (fq4_1 : Nat → Int32), (j1 ≤ pc) → (∀ j : Nat, j < j1 → fq4_1 j = nI (tN (fq4_1 j)) ∧ tN (fq4_1 j) < 40) → (L1_X4_append pc pH pK pA pB ho ki on ot j1 fq4_1 = F_X4_append pc pH pK pA pB oE ho ki on ot) → ∀ (H : Heap) (locs : List Loc) (ls : Array Slot), WD g A s H locs [(q0, .inl (g.2.1 1, 40, .inl (upd pH pc ho))), (q1, .inl (g.2.1 1, 40, .inl (upd pK pc ki))), (q2, .inl (g.2.1 1, 40, .inl (upd pA pc on))), (q3, .inl (g.2.1 1, 40, .inl (upd pB pc ot))), (q4, .inl (g.2.1 1, 40, .inl fq4_1)), (q, .inr (4, [.ref pv, .int (nI pc), .ref q0, .ref q1, .ref q2, .ref q3, .ref q4, .ref q5, .ref q6]))] → lv_has ls 6 [(5, .int (nI j1)), (0, .ref q), (1, .int ho), (2, .int ki), (3, .int on), (4, .int ot)] → W p l e (RM 1 0 0) s m args below meth c H locs 0 0 Q (F0 m 56 ls []) := by
      intro j1
      induction j1 with
      | zero =>
        intro fq4_1 hj1 hoe1 hst1 H locs ls hW hl
        refine lv_iload (pc := 56) hx hb dX4_append_56 (lv_at hl 0 rfl) ?_
        refine lv_if_le (tgt := 101) (pc := 58) hx hb dX4_append_58 rfl (fun c4 => ?_) (fun c4 => absurd (by decide) c4)
        refine lv_aload_n (pc := 101) hx hb dX4_append_101 rfl (lv_at hl 1 rfl) ?_
        refine r_get X hW 5 ciX4 6 rfl (by decide) m_580 rfl rfl dX4_append_102 ?_
        refine lv_iload (pc := 105) hx hb dX4_append_105 (lv_at hl 0 rfl) ?_
        refine lv_aload_n (pc := 107) hx hb dX4_append_107 rfl (lv_at hl 1 rfl) ?_
        refine r_get X hW 5 ciX4 1 rfl (by decide) m_569 rfl rfl dX4_append_108 ?_
        refine r_iast (ws' := [(q0, .inl (g.2.1 1, 40, .inl (upd pH pc ho))), (q1, .inl (g.2.1 1, 40, .inl (upd pK pc ki))), (q2, .inl (g.2.1 1, 40, .inl (upd pA pc on))), (q3, .inl (g.2.1 1, 40, .inl (upd pB pc ot))), (q4, .inl (g.2.1 1, 40, .inl (upd fq4_1 0 (nI pc)))), (q, .inr (4, [.ref pv, .int (nI pc), .ref q0, .ref q1, .ref q2, .ref q3, .ref q4, .ref q5, .ref q6]))]) X hW 4 rfl (by unfold vp_in; decide) (f' := (upd fq4_1 0 (nI pc))) (rfl) rfl dX4_append_111 (fun H locs hW => ?_)
        refine lv_aload_n (pc := 112) hx hb dX4_append_112 rfl (lv_at hl 1 rfl) ?_
        refine lv_dup (pc := 113) hx hb dX4_append_113 rfl ?_
        refine r_get X hW 5 ciX4 1 rfl (by decide) m_569 rfl rfl dX4_append_114 ?_
        refine lv_iconst (v := 1) (pc := 117) hx hb dX4_append_117 (by decide) ?_
        refine lv_iadd (pc := 118) hx hb dX4_append_118 ?_
        refine lv_topi (fun v5 ev5 => ?_)
        obtain rfl : v5 = nI (pc + 1) := ev5.trans (nI_add pc 1)
        refine r_put (ws' := [(q0, .inl (g.2.1 1, 40, .inl (upd pH pc ho))), (q1, .inl (g.2.1 1, 40, .inl (upd pK pc ki))), (q2, .inl (g.2.1 1, 40, .inl (upd pA pc on))), (q3, .inl (g.2.1 1, 40, .inl (upd pB pc ot))), (q4, .inl (g.2.1 1, 40, .inl (upd fq4_1 0 (nI pc)))), (q, .inr (4, [.ref pv, .int (nI (pc + 1)), .ref q0, .ref q1, .ref q2, .ref q3, .ref q4, .ref q5, .ref q6]))]) X hW 5 ciX4 1 rfl (by decide) m_569 rfl rfl rfl rfl (Nat.le_of_ble_eq_true rfl) rfl dX4_append_119 (fun H locs hW => ?_)
        refine lv_aload_n (pc := 122) hx hb dX4_append_122 rfl (lv_at hl 1 rfl) ?_
        refine r_get X hW 5 ciX4 1 rfl (by decide) m_569 rfl rfl dX4_append_123 ?_
        refine lv_iconst (v := 1) (pc := 126) hx hb dX4_append_126 (by decide) ?_
        refine lv_isub (pc := 127) hx hb dX4_append_127 ?_
        refine lv_topi (fun v6 ev6 => ?_)
        obtain rfl : v6 = nI (pc + 1 - 1) := ev6.trans (pk_sub (a := (pc + 1)) (b := 1) (by omega))
        have hF : F_X4_append pc pH pK pA pB oE ho ki on ot = (nI (pc + 1 - 1), nI (pc + 1), (upd pH pc ho), (upd pK pc ki), (upd pA pc on), (upd pB pc ot), (upd fq4_1 0 (nI pc))) := hst1.symm.trans (show L1_X4_append pc pH pK pA pB ho ki on ot 0 fq4_1 = (nI (pc + 1 - 1), nI (pc + 1), (upd pH pc ho), (upd pK pc ki), (upd pA pc on), (upd pB pc ot), (upd fq4_1 0 (nI pc))) from by rw [L1_X4_append])
        exact e_i (u := [(q, .inr (4, [.ref pv, .int (nI (pc + 1)), .ref q0, .ref q1, .ref q2, .ref q3, .ref q4, .ref q5, .ref q6])), (q0, .inl (g.2.1 1, 40, .inl (upd pH pc ho))), (q1, .inl (g.2.1 1, 40, .inl (upd pK pc ki))), (q2, .inl (g.2.1 1, 40, .inl (upd pA pc on))), (q3, .inl (g.2.1 1, 40, .inl (upd pB pc ot))), (q4, .inl (g.2.1 1, 40, .inl (upd fq4_1 0 (nI pc))))]) X hQ hr (hW) [5, 0, 1, 2, 3, 4] rfl rfl (⟨(congrArg Prod.fst hF).symm, by rw [hF]⟩) ⟨Nat.le_of_ble_eq_true rfl, Nat.le_of_ble_eq_true rfl⟩ dX4_append_128
      | succ j1 ih1 =>
        intro fq4_1 hj1 hoe1 hst1 H locs ls hW hl
        refine lv_iload (pc := 56) hx hb dX4_append_56 (lv_at hl 0 rfl) ?_
        refine lv_if_le (tgt := 101) (pc := 58) hx hb dX4_append_58 rfl (fun c7 => absurd c7 (nI_nle (by omega) (by omega))) (fun c7 => ?_)
        refine lv_aload_n (pc := 61) hx hb dX4_append_61 rfl (lv_at hl 1 rfl) ?_
        refine r_get X hW 5 ciX4 2 rfl (by decide) m_572 rfl rfl dX4_append_62 ?_
        refine lv_aload_n (pc := 65) hx hb dX4_append_65 rfl (lv_at hl 1 rfl) ?_
        refine r_get X hW 5 ciX4 6 rfl (by decide) m_580 rfl rfl dX4_append_66 ?_
        refine lv_iload (pc := 69) hx hb dX4_append_69 (lv_at hl 0 rfl) ?_
        refine lv_iconst (v := 1) (pc := 71) hx hb dX4_append_71 (by decide) ?_
        refine lv_isub (pc := 72) hx hb dX4_append_72 ?_
        refine lv_topi (fun v8 ev8 => ?_)
        obtain rfl : v8 = nI (j1 + 1 - 1) := ev8.trans (pk_sub (a := (j1 + 1)) (b := 1) (by omega))
        refine r_iald X hW 4 rfl (vp_in_nI (by omega) (by decide)) dX4_append_73 ?_
        refine lv_topi (fun v9 ev9 => ?_)
        obtain rfl : v9 = fq4_1 (j1 + 1 - 1) := ev9.trans (by rw [nI_clamp (by omega)])
        rw [show fq4_1 (j1 + 1 - 1) = nI (tN (fq4_1 j1)) from (hoe1 j1 (by omega)).1]
        have ho40 := (hoe1 j1 (by omega)).2
        refine r_iald X hW 0 rfl (vp_in_nI (by omega) (by decide)) dX4_append_74 ?_
        refine lv_topi (fun v10 ev10 => ?_)
        obtain rfl : v10 = (upd pH pc ho) (tN (fq4_1 j1)) := ev10.trans (by rw [nI_clamp (by omega)])
        refine lv_iload_n (pc := 75) hx hb dX4_append_75 rfl (lv_at hl 2 rfl) ?_
        refine lv_icmp_le (tgt := 101) (pc := 76) hx hb dX4_append_76 rfl (fun c11 => ?_) (fun c11 => ?_)
        · refine lv_aload_n (pc := 101) hx hb dX4_append_101 rfl (lv_at hl 1 rfl) ?_
          refine r_get X hW 5 ciX4 6 rfl (by decide) m_580 rfl rfl dX4_append_102 ?_
          refine lv_iload (pc := 105) hx hb dX4_append_105 (lv_at hl 0 rfl) ?_
          refine lv_aload_n (pc := 107) hx hb dX4_append_107 rfl (lv_at hl 1 rfl) ?_
          refine r_get X hW 5 ciX4 1 rfl (by decide) m_569 rfl rfl dX4_append_108 ?_
          refine r_iast (ws' := [(q0, .inl (g.2.1 1, 40, .inl (upd pH pc ho))), (q1, .inl (g.2.1 1, 40, .inl (upd pK pc ki))), (q2, .inl (g.2.1 1, 40, .inl (upd pA pc on))), (q3, .inl (g.2.1 1, 40, .inl (upd pB pc ot))), (q4, .inl (g.2.1 1, 40, .inl (upd fq4_1 (j1 + 1) (nI pc)))), (q, .inr (4, [.ref pv, .int (nI pc), .ref q0, .ref q1, .ref q2, .ref q3, .ref q4, .ref q5, .ref q6]))]) X hW 4 rfl (vp_in_nI (by omega) (by decide)) (f' := (upd fq4_1 (j1 + 1) (nI pc))) (by rw [nI_clamp (by omega)]) rfl dX4_append_111 (fun H locs hW => ?_)
          refine lv_aload_n (pc := 112) hx hb dX4_append_112 rfl (lv_at hl 1 rfl) ?_
          refine lv_dup (pc := 113) hx hb dX4_append_113 rfl ?_
          refine r_get X hW 5 ciX4 1 rfl (by decide) m_569 rfl rfl dX4_append_114 ?_
          refine lv_iconst (v := 1) (pc := 117) hx hb dX4_append_117 (by decide) ?_
          refine lv_iadd (pc := 118) hx hb dX4_append_118 ?_
          refine lv_topi (fun v13 ev13 => ?_)
          obtain rfl : v13 = nI (pc + 1) := ev13.trans (nI_add pc 1)
          refine r_put (ws' := [(q0, .inl (g.2.1 1, 40, .inl (upd pH pc ho))), (q1, .inl (g.2.1 1, 40, .inl (upd pK pc ki))), (q2, .inl (g.2.1 1, 40, .inl (upd pA pc on))), (q3, .inl (g.2.1 1, 40, .inl (upd pB pc ot))), (q4, .inl (g.2.1 1, 40, .inl (upd fq4_1 (j1 + 1) (nI pc)))), (q, .inr (4, [.ref pv, .int (nI (pc + 1)), .ref q0, .ref q1, .ref q2, .ref q3, .ref q4, .ref q5, .ref q6]))]) X hW 5 ciX4 1 rfl (by decide) m_569 rfl rfl rfl rfl (Nat.le_of_ble_eq_true rfl) rfl dX4_append_119 (fun H locs hW => ?_)
          refine lv_aload_n (pc := 122) hx hb dX4_append_122 rfl (lv_at hl 1 rfl) ?_
          refine r_get X hW 5 ciX4 1 rfl (by decide) m_569 rfl rfl dX4_append_123 ?_
          refine lv_iconst (v := 1) (pc := 126) hx hb dX4_append_126 (by decide) ?_
          refine lv_isub (pc := 127) hx hb dX4_append_127 ?_
          refine lv_topi (fun v14 ev14 => ?_)
          obtain rfl : v14 = nI (pc + 1 - 1) := ev14.trans (pk_sub (a := (pc + 1)) (b := 1) (by omega))
          have hF : F_X4_append pc pH pK pA pB oE ho ki on ot = (nI (pc + 1 - 1), nI (pc + 1), (upd pH pc ho), (upd pK pc ki), (upd pA pc on), (upd pB pc ot), (upd fq4_1 (j1 + 1) (nI pc))) := hst1.symm.trans (show L1_X4_append pc pH pK pA pB ho ki on ot (j1 + 1) fq4_1 = (nI (pc + 1 - 1), nI (pc + 1), (upd pH pc ho), (upd pK pc ki), (upd pA pc on), (upd pB pc ot), (upd fq4_1 (j1 + 1) (nI pc))) from by rw [L1_X4_append, if_pos c11])
          exact e_i (u := [(q, .inr (4, [.ref pv, .int (nI (pc + 1)), .ref q0, .ref q1, .ref q2, .ref q3, .ref q4, .ref q5, .ref q6])), (q0, .inl (g.2.1 1, 40, .inl (upd pH pc ho))), (q1, .inl (g.2.1 1, 40, .inl (upd pK pc ki))), (q2, .inl (g.2.1 1, 40, .inl (upd pA pc on))), (q3, .inl (g.2.1 1, 40, .inl (upd pB pc ot))), (q4, .inl (g.2.1 1, 40, .inl (upd fq4_1 (j1 + 1) (nI pc))))]) X hQ hr (hW) [5, 0, 1, 2, 3, 4] rfl rfl (⟨(congrArg Prod.fst hF).symm, by rw [hF]⟩) ⟨Nat.le_of_ble_eq_true rfl, Nat.le_of_ble_eq_true rfl⟩ dX4_append_128
        · refine lv_aload_n (pc := 79) hx hb dX4_append_79 rfl (lv_at hl 1 rfl) ?_
          refine r_get X hW 5 ciX4 6 rfl (by decide) m_580 rfl rfl dX4_append_80 ?_
          refine lv_iload (pc := 83) hx hb dX4_append_83 (lv_at hl 0 rfl) ?_
          refine lv_aload_n (pc := 85) hx hb dX4_append_85 rfl (lv_at hl 1 rfl) ?_
          refine r_get X hW 5 ciX4 6 rfl (by decide) m_580 rfl rfl dX4_append_86 ?_
          refine lv_iload (pc := 89) hx hb dX4_append_89 (lv_at hl 0 rfl) ?_
          refine lv_iconst (v := 1) (pc := 91) hx hb dX4_append_91 (by decide) ?_
          refine lv_isub (pc := 92) hx hb dX4_append_92 ?_
          refine lv_topi (fun v16 ev16 => ?_)
          obtain rfl : v16 = nI (j1 + 1 - 1) := ev16.trans (pk_sub (a := (j1 + 1)) (b := 1) (by omega))
          refine r_iald X hW 4 rfl (vp_in_nI (by omega) (by decide)) dX4_append_93 ?_
          refine lv_topi (fun v17 ev17 => ?_)
          obtain rfl : v17 = fq4_1 (j1 + 1 - 1) := ev17.trans (by rw [nI_clamp (by omega)])
          refine r_iast (ws' := [(q0, .inl (g.2.1 1, 40, .inl (upd pH pc ho))), (q1, .inl (g.2.1 1, 40, .inl (upd pK pc ki))), (q2, .inl (g.2.1 1, 40, .inl (upd pA pc on))), (q3, .inl (g.2.1 1, 40, .inl (upd pB pc ot))), (q4, .inl (g.2.1 1, 40, .inl (upd fq4_1 (j1 + 1) (fq4_1 (j1 + 1 - 1))))), (q, .inr (4, [.ref pv, .int (nI pc), .ref q0, .ref q1, .ref q2, .ref q3, .ref q4, .ref q5, .ref q6]))]) X hW 4 rfl (vp_in_nI (by omega) (by decide)) (f' := (upd fq4_1 (j1 + 1) (fq4_1 (j1 + 1 - 1)))) (by rw [nI_clamp (by omega)]) rfl dX4_append_94 (fun H locs hW => ?_)
          refine lv_iinc (v := nI (j1 + 1 - 1)) (lv' := [(5, .int (nI (j1 + 1 - 1))), (0, .ref q), (1, .int ho), (2, .int ki), (3, .int on), (4, .int ot)]) (pc := 95) hx hb dX4_append_95 hl (k := 0) rfl (nI_dec (by omega)) (by decide) rfl (fun ls hl => ?_)
          refine lv_goto (tgt := 56) (pc := 98) hx hb dX4_append_98 rfl ?_
          exact ih1 (upd fq4_1 (j1 + 1) (fq4_1 (j1 + 1 - 1))) (by omega) (fun j hj => by rw [upd_ne (by omega)]; exact hoe1 j (by omega)) ((show L1_X4_append pc pH pK pA pB ho ki on ot (j1 + 1) fq4_1 = L1_X4_append pc pH pK pA pB ho ki on ot j1 (upd fq4_1 (j1 + 1) (fq4_1 (j1 + 1 - 1))) from by rw [L1_X4_append, if_neg c11]).symm.trans hst1) _ _ _ hW (lv_sub hl [0, 1, 2, 3, 4, 5] rfl)
    exact loop1 pc oE (Nat.le_refl _) (fun j hj => hoe j (by omega)) (show F_X4_append pc pH pK pA pB oE ho ki on ot = L1_X4_append pc pH pK pA pB ho ki on ot pc oE from by rw [F_X4_append, if_neg c2]).symm _ _ _ hW (lv_sub hl [0, 1, 2, 3, 4, 5] rfl)
  · refine lv_iconst (v := (-1)) (pc := 7) hx hb dX4_append_7 (by decide) ?_
    have hF : F_X4_append pc pH pK pA pB oE ho ki on ot = ((-1 : Int32), nI pc, pH, pK, pA, pB, oE) := show F_X4_append pc pH pK pA pB oE ho ki on ot = ((-1 : Int32), nI pc, pH, pK, pA, pB, oE) from by rw [F_X4_append, if_pos c2]
    exact e_i (u := [(q, .inr (4, [.ref pv, .int (nI pc), .ref q0, .ref q1, .ref q2, .ref q3, .ref q4, .ref q5, .ref q6])), (q0, .inl (g.2.1 1, 40, .inl pH)), (q1, .inl (g.2.1 1, 40, .inl pK)), (q2, .inl (g.2.1 1, 40, .inl pA)), (q3, .inl (g.2.1 1, 40, .inl pB)), (q4, .inl (g.2.1 1, 40, .inl oE))]) X hQ hr (hW) [5, 0, 1, 2, 3, 4] rfl rfl (⟨(congrArg Prod.fst hF).symm, by rw [hF]⟩) ⟨Nat.le_of_ble_eq_true rfl, Nat.le_of_ble_eq_true rfl⟩ dX4_append_8

def F_X11_call1 (cc : Int32) (pc : Nat) (pe : Nat) (pH : Nat → Int32) (pK : Nat → Int32) (pA : Nat → Int32) (pB : Nat → Int32) (oE : Nat → Int32) (ho : Int32) (ki : Int32) (on : Int32) (ot : Int32) : Int32 × Int32 × Int32 × (Nat → Int32) × (Nat → Int32) × (Nat → Int32) × (Nat → Int32) × (Nat → Int32) := if F_X11_isHour ho = 0 then (((-1 : Int32), cc, nI pc, pH, pK, pA, pB, oE)) else (if ki < 0 then (((-1 : Int32), cc, nI pc, pH, pK, pA, pB, oE)) else (if 4 < ki then (((-1 : Int32), cc, nI pc, pH, pK, pA, pB, oE)) else (if F_X4_hasRoom pc = 0 then (((-1 : Int32), cc, nI pc, pH, pK, pA, pB, oE)) else (if ki = 3 then (if F_X10_hasPerson (nI pe) on = 0 then (((-1 : Int32), cc, nI pc, pH, pK, pA, pB, oE)) else (((F_X4_append pc pH pK pA pB oE ho ki on ot).1, cc + (1 : Int32), (F_X4_append pc pH pK pA pB oE ho ki on ot).2.1, ((F_X4_append pc pH pK pA pB oE ho ki on ot).2.2.1), ((F_X4_append pc pH pK pA pB oE ho ki on ot).2.2.2.1), ((F_X4_append pc pH pK pA pB oE ho ki on ot).2.2.2.2.1), ((F_X4_append pc pH pK pA pB oE ho ki on ot).2.2.2.2.2.1), ((F_X4_append pc pH pK pA pB oE ho ki on ot).2.2.2.2.2.2)))) else (if F_X10_hasCouple (nI pe) on ot = 0 then (((-1 : Int32), cc, nI pc, pH, pK, pA, pB, oE)) else (((F_X4_append pc pH pK pA pB oE ho ki on ot).1, cc + (1 : Int32), (F_X4_append pc pH pK pA pB oE ho ki on ot).2.1, ((F_X4_append pc pH pK pA pB oE ho ki on ot).2.2.1), ((F_X4_append pc pH pK pA pB oE ho ki on ot).2.2.2.1), ((F_X4_append pc pH pK pA pB oE ho ki on ot).2.2.2.2.1), ((F_X4_append pc pH pK pA pB oE ho ki on ot).2.2.2.2.2.1), ((F_X4_append pc pH pK pA pB oE ho ki on ot).2.2.2.2.2.2))))))))
set_option maxHeartbeats 4000000 in
set_option maxRecDepth 100000 in
theorem K_X11_call1 (l : Launch) (g : GG) (h0 : Nat) (a0 : Nat) (a1 : Nat) (a2 : Nat) (a3 : Nat) (a4 : Nat) (a5 : Nat) (a6 : Nat) (a7 : Nat) (a8 : Nat) (a9 : Nat) (a10 : Nat) (nv : Nat) (np : Nat) (cc : Int32) (fB : Nat → Option Nat) (i : Nat) (q : Nat) (q0 : Nat) (q1 : Nat) (q2 : Nat) (q3 : Nat) (q4 : Nat) (q5 : Nat) (q6 : Nat) (pc : Nat) (v : Nat) (v3 : Nat) (v4 : Nat) (v5 : Nat) (v6 : Nat) (v7 : Nat) (v8 : Nat) (v9 : Nat) (v10 : Nat) (v11 : Nat) (v12 : Nat) (v13 : Nat) (v15 : Nat) (pe : Nat) (lc : Int32) (de : Int32) (gl : Int32) (pH : Nat → Int32) (pK : Nat → Int32) (pA : Nat → Int32) (pB : Nat → Int32) (oE : Nat → Int32) (ho : Int32) (ki : Int32) (on : Int32) (ot : Int32) (hi : i < np) (hnp : np ≤ 12) (hA : fB i = some q) (hp40 : pc ≤ 40) (hoe : ∀ j : Nat, j < 40 → oE j = nI (tN (oE j)) ∧ tN (oE j) < 40) : MetI l g yX11_call cX11_call 8 (some .int) 2 0 0 [.ref h0, .int (nI i), .int ho, .int ki, .int on, .int ot] [(h0, .inr (11, [.ref a0, .ref a1, .ref a2, .ref a3, .ref a4, .ref a5, .ref a6, .ref a7, .ref a8, .ref a9, .ref a10, .int (nI nv), .int (nI np), .int cc])), (a2, .inl (g.2.1 5, 12, .inr (.inr (.inr (.inr fB))))), (q, .inr (4, [.ref v, .int (nI pc), .ref q0, .ref q1, .ref q2, .ref q3, .ref q4, .ref q5, .ref q6])), (q0, .inl (g.2.1 1, 40, .inl pH)), (q1, .inl (g.2.1 1, 40, .inl pK)), (q2, .inl (g.2.1 1, 40, .inl pA)), (q3, .inl (g.2.1 1, 40, .inl pB)), (q4, .inl (g.2.1 1, 40, .inl oE)), (v, .inr (10, [.int (nI pe), .int lc, .int de, .ref v3, .ref v4, .ref v5, .ref v6, .ref v7, .ref v8, .ref v9, .ref v10, .ref v11, .ref v12, .ref v13, .int gl, .ref v15]))] (fun r u => r = (F_X11_call1 cc pc pe pH pK pA pB oE ho ki on ot).1 ∧ u = [(h0, .inr (11, [.ref a0, .ref a1, .ref a2, .ref a3, .ref a4, .ref a5, .ref a6, .ref a7, .ref a8, .ref a9, .ref a10, .int (nI nv), .int (nI np), .int ((F_X11_call1 cc pc pe pH pK pA pB oE ho ki on ot).2.1)])), (a2, .inl (g.2.1 5, 12, .inr (.inr (.inr (.inr fB))))), (q, .inr (4, [.ref v, .int ((F_X11_call1 cc pc pe pH pK pA pB oE ho ki on ot).2.2.1), .ref q0, .ref q1, .ref q2, .ref q3, .ref q4, .ref q5, .ref q6])), (q0, .inl (g.2.1 1, 40, .inl ((F_X11_call1 cc pc pe pH pK pA pB oE ho ki on ot).2.2.2.1))), (q1, .inl (g.2.1 1, 40, .inl ((F_X11_call1 cc pc pe pH pK pA pB oE ho ki on ot).2.2.2.2.1))), (q2, .inl (g.2.1 1, 40, .inl ((F_X11_call1 cc pc pe pH pK pA pB oE ho ki on ot).2.2.2.2.2.1))), (q3, .inl (g.2.1 1, 40, .inl ((F_X11_call1 cc pc pe pH pK pA pB oE ho ki on ot).2.2.2.2.2.2.1))), (q4, .inl (g.2.1 1, 40, .inl ((F_X11_call1 cc pc pe pH pK pA pB oE ho ki on ot).2.2.2.2.2.2.2))), (v, .inr (10, [.int (nI pe), .int lc, .int de, .ref v3, .ref v4, .ref v5, .ref v6, .ref v7, .ref v8, .ref v9, .ref v10, .ref v11, .ref v12, .ref v13, .int gl, .ref v15]))]) := by
  refine MetI.of (own := RX11) rfl (by decide) (Nat.le_of_ble_eq_true rfl) ?_
  intro p e s m below meth c A ls args Q hQ X hr hin hW hl
  have hx := X.1
  have hb := X.2.1
  have hl : lv_has ls 8 [(0, .ref h0), (1, .int (nI i)), (2, .int ho), (3, .int ki), (4, .int on), (5, .int ot)] := hl
  refine lv_aload_n (pc := 0) hx hb dX11_call_0 rfl (lv_at hl 0 rfl) ?_
  refine lv_iload_n (pc := 1) hx hb dX11_call_1 rfl (lv_at hl 1 rfl) ?_
  refine c_Vq (pc := 2) (As := [.int (nI i)]) (rest := []) (wr := [(q, .inr (4, [.ref v, .int (nI pc), .ref q0, .ref q1, .ref q2, .ref q3, .ref q4, .ref q5, .ref q6])), (q0, .inl (g.2.1 1, 40, .inl pH)), (q1, .inl (g.2.1 1, 40, .inl pK)), (q2, .inl (g.2.1 1, 40, .inl pA)), (q3, .inl (g.2.1 1, 40, .inl pB)), (q4, .inl (g.2.1 1, 40, .inl oE)), (v, .inr (10, [.int (nI pe), .int lc, .int de, .ref v3, .ref v4, .ref v5, .ref v6, .ref v7, .ref v8, .ref v9, .ref v10, .ref v11, .ref v12, .ref v13, .int gl, .ref v15]))]) X hW 0 ciX11 rfl (C_X11_planAt1 l g h0 a0 a1 a2 a3 a4 a5 a6 a7 a8 a9 a10 nv np cc fB i q (by omega) (by omega) hA) vX11_157 [0, 1] [2, 3, 4, 5, 6, 7, 8] rfl rfl rfl rfl rfl rfl hl.1 rfl (Nat.le_of_ble_eq_true rfl) ⟨Nat.le_of_ble_eq_true rfl, Nat.le_of_ble_eq_true rfl⟩ ⟨Nat.le_of_ble_eq_true rfl, Nat.le_of_ble_eq_true rfl⟩ dX11_call_2 (fun r1 u9 H locs hq hW => ?_)
  obtain ⟨rfl, rfl⟩ := hq
  have hW : WD g A s _ _ [(q, .inr (4, [.ref v, .int (nI pc), .ref q0, .ref q1, .ref q2, .ref q3, .ref q4, .ref q5, .ref q6])), (q0, .inl (g.2.1 1, 40, .inl pH)), (q1, .inl (g.2.1 1, 40, .inl pK)), (q2, .inl (g.2.1 1, 40, .inl pA)), (q3, .inl (g.2.1 1, 40, .inl pB)), (q4, .inl (g.2.1 1, 40, .inl oE)), (v, .inr (10, [.int (nI pe), .int lc, .int de, .ref v3, .ref v4, .ref v5, .ref v6, .ref v7, .ref v8, .ref v9, .ref v10, .ref v11, .ref v12, .ref v13, .int gl, .ref v15])), (h0, .inr (11, [.ref a0, .ref a1, .ref a2, .ref a3, .ref a4, .ref a5, .ref a6, .ref a7, .ref a8, .ref a9, .ref a10, .int (nI nv), .int (nI np), .int cc])), (a2, .inl (g.2.1 5, 12, .inr (.inr (.inr (.inr fB)))))] := hW
  refine lv_astore (lv' := [(6, .ref q), (0, .ref h0), (1, .int (nI i)), (2, .int ho), (3, .int ki), (4, .int on), (5, .int ot)]) (pc := 5) hx hb dX11_call_5 hl (by decide) rfl (fun ls hl => ?_)
  refine lv_aload (pc := 7) hx hb dX11_call_7 (lv_at hl 0 rfl) ?_
  refine lv_ifnull (pc := 9) hx hb dX11_call_9 ?_
  refine lv_iload_n (pc := 12) hx hb dX11_call_12 rfl (lv_at hl 3 rfl) ?_
  refine c_Si (pc := 13) (As := [.int ho]) (rest := []) (wr := [(q, .inr (4, [.ref v, .int (nI pc), .ref q0, .ref q1, .ref q2, .ref q3, .ref q4, .ref q5, .ref q6])), (q0, .inl (g.2.1 1, 40, .inl pH)), (q1, .inl (g.2.1 1, 40, .inl pK)), (q2, .inl (g.2.1 1, 40, .inl pA)), (q3, .inl (g.2.1 1, 40, .inl pB)), (q4, .inl (g.2.1 1, 40, .inl oE)), (v, .inr (10, [.int (nI pe), .int lc, .int de, .ref v3, .ref v4, .ref v5, .ref v6, .ref v7, .ref v8, .ref v9, .ref v10, .ref v11, .ref v12, .ref v13, .int gl, .ref v15])), (h0, .inr (11, [.ref a0, .ref a1, .ref a2, .ref a3, .ref a4, .ref a5, .ref a6, .ref a7, .ref a8, .ref a9, .ref a10, .int (nI nv), .int (nI np), .int cc])), (a2, .inl (g.2.1 5, 12, .inr (.inr (.inr (.inr fB)))))]) X hW (K_X11_isHour l g ho) vX11_134 [] [0, 1, 2, 3, 4, 5, 6, 7, 8] rfl rfl rfl rfl rfl rfl hl.1 rfl (Nat.le_of_ble_eq_true rfl) ⟨Nat.le_of_ble_eq_true rfl, Nat.le_of_ble_eq_true rfl⟩ ⟨Nat.le_of_ble_eq_true rfl, Nat.le_of_ble_eq_true rfl⟩ dX11_call_13 (fun r2 u9 H locs hq hW => ?_)
  obtain ⟨rfl, rfl⟩ := hq
  have hW : WD g A s _ _ [(q, .inr (4, [.ref v, .int (nI pc), .ref q0, .ref q1, .ref q2, .ref q3, .ref q4, .ref q5, .ref q6])), (q0, .inl (g.2.1 1, 40, .inl pH)), (q1, .inl (g.2.1 1, 40, .inl pK)), (q2, .inl (g.2.1 1, 40, .inl pA)), (q3, .inl (g.2.1 1, 40, .inl pB)), (q4, .inl (g.2.1 1, 40, .inl oE)), (v, .inr (10, [.int (nI pe), .int lc, .int de, .ref v3, .ref v4, .ref v5, .ref v6, .ref v7, .ref v8, .ref v9, .ref v10, .ref v11, .ref v12, .ref v13, .int gl, .ref v15])), (h0, .inr (11, [.ref a0, .ref a1, .ref a2, .ref a3, .ref a4, .ref a5, .ref a6, .ref a7, .ref a8, .ref a9, .ref a10, .int (nI nv), .int (nI np), .int cc])), (a2, .inl (g.2.1 5, 12, .inr (.inr (.inr (.inr fB)))))] := hW
  refine lv_if_eq (tgt := 36) (pc := 16) hx hb dX11_call_16 rfl (fun c3 => ?_) (fun c3 => ?_)
  · refine lv_iconst (v := (-1)) (pc := 36) hx hb dX11_call_36 (by decide) ?_
    have hF : F_X11_call1 cc pc pe pH pK pA pB oE ho ki on ot = ((-1 : Int32), cc, nI pc, pH, pK, pA, pB, oE) := show F_X11_call1 cc pc pe pH pK pA pB oE ho ki on ot = ((-1 : Int32), cc, nI pc, pH, pK, pA, pB, oE) from by rw [F_X11_call1, if_pos c3]
    exact e_i (u := [(h0, .inr (11, [.ref a0, .ref a1, .ref a2, .ref a3, .ref a4, .ref a5, .ref a6, .ref a7, .ref a8, .ref a9, .ref a10, .int (nI nv), .int (nI np), .int cc])), (a2, .inl (g.2.1 5, 12, .inr (.inr (.inr (.inr fB))))), (q, .inr (4, [.ref v, .int (nI pc), .ref q0, .ref q1, .ref q2, .ref q3, .ref q4, .ref q5, .ref q6])), (q0, .inl (g.2.1 1, 40, .inl pH)), (q1, .inl (g.2.1 1, 40, .inl pK)), (q2, .inl (g.2.1 1, 40, .inl pA)), (q3, .inl (g.2.1 1, 40, .inl pB)), (q4, .inl (g.2.1 1, 40, .inl oE)), (v, .inr (10, [.int (nI pe), .int lc, .int de, .ref v3, .ref v4, .ref v5, .ref v6, .ref v7, .ref v8, .ref v9, .ref v10, .ref v11, .ref v12, .ref v13, .int gl, .ref v15]))]) X hQ hr (hW) [7, 8, 0, 1, 2, 3, 4, 5, 6] rfl rfl (⟨(congrArg Prod.fst hF).symm, by rw [hF]⟩) ⟨Nat.le_of_ble_eq_true rfl, Nat.le_of_ble_eq_true rfl⟩ dX11_call_37
  · refine lv_iload_n (pc := 19) hx hb dX11_call_19 rfl (lv_at hl 4 rfl) ?_
    refine lv_if_lt (tgt := 36) (pc := 20) hx hb dX11_call_20 rfl (fun c6 => ?_) (fun c6 => ?_)
    · refine lv_iconst (v := (-1)) (pc := 36) hx hb dX11_call_36 (by decide) ?_
      have hF : F_X11_call1 cc pc pe pH pK pA pB oE ho ki on ot = ((-1 : Int32), cc, nI pc, pH, pK, pA, pB, oE) := show F_X11_call1 cc pc pe pH pK pA pB oE ho ki on ot = ((-1 : Int32), cc, nI pc, pH, pK, pA, pB, oE) from by rw [F_X11_call1, if_neg c3, if_pos c6]
      exact e_i (u := [(h0, .inr (11, [.ref a0, .ref a1, .ref a2, .ref a3, .ref a4, .ref a5, .ref a6, .ref a7, .ref a8, .ref a9, .ref a10, .int (nI nv), .int (nI np), .int cc])), (a2, .inl (g.2.1 5, 12, .inr (.inr (.inr (.inr fB))))), (q, .inr (4, [.ref v, .int (nI pc), .ref q0, .ref q1, .ref q2, .ref q3, .ref q4, .ref q5, .ref q6])), (q0, .inl (g.2.1 1, 40, .inl pH)), (q1, .inl (g.2.1 1, 40, .inl pK)), (q2, .inl (g.2.1 1, 40, .inl pA)), (q3, .inl (g.2.1 1, 40, .inl pB)), (q4, .inl (g.2.1 1, 40, .inl oE)), (v, .inr (10, [.int (nI pe), .int lc, .int de, .ref v3, .ref v4, .ref v5, .ref v6, .ref v7, .ref v8, .ref v9, .ref v10, .ref v11, .ref v12, .ref v13, .int gl, .ref v15]))]) X hQ hr (hW) [7, 8, 0, 1, 2, 3, 4, 5, 6] rfl rfl (⟨(congrArg Prod.fst hF).symm, by rw [hF]⟩) ⟨Nat.le_of_ble_eq_true rfl, Nat.le_of_ble_eq_true rfl⟩ dX11_call_37
    · refine lv_iload_n (pc := 23) hx hb dX11_call_23 rfl (lv_at hl 4 rfl) ?_
      refine lv_iconst (v := 4) (pc := 24) hx hb dX11_call_24 (by decide) ?_
      refine lv_icmp_gt (tgt := 36) (pc := 25) hx hb dX11_call_25 rfl (fun c9 => ?_) (fun c9 => ?_)
      · refine lv_iconst (v := (-1)) (pc := 36) hx hb dX11_call_36 (by decide) ?_
        have hF : F_X11_call1 cc pc pe pH pK pA pB oE ho ki on ot = ((-1 : Int32), cc, nI pc, pH, pK, pA, pB, oE) := show F_X11_call1 cc pc pe pH pK pA pB oE ho ki on ot = ((-1 : Int32), cc, nI pc, pH, pK, pA, pB, oE) from by rw [F_X11_call1, if_neg c3, if_neg c6, if_pos c9]
        exact e_i (u := [(h0, .inr (11, [.ref a0, .ref a1, .ref a2, .ref a3, .ref a4, .ref a5, .ref a6, .ref a7, .ref a8, .ref a9, .ref a10, .int (nI nv), .int (nI np), .int cc])), (a2, .inl (g.2.1 5, 12, .inr (.inr (.inr (.inr fB))))), (q, .inr (4, [.ref v, .int (nI pc), .ref q0, .ref q1, .ref q2, .ref q3, .ref q4, .ref q5, .ref q6])), (q0, .inl (g.2.1 1, 40, .inl pH)), (q1, .inl (g.2.1 1, 40, .inl pK)), (q2, .inl (g.2.1 1, 40, .inl pA)), (q3, .inl (g.2.1 1, 40, .inl pB)), (q4, .inl (g.2.1 1, 40, .inl oE)), (v, .inr (10, [.int (nI pe), .int lc, .int de, .ref v3, .ref v4, .ref v5, .ref v6, .ref v7, .ref v8, .ref v9, .ref v10, .ref v11, .ref v12, .ref v13, .int gl, .ref v15]))]) X hQ hr (hW) [7, 8, 0, 1, 2, 3, 4, 5, 6] rfl rfl (⟨(congrArg Prod.fst hF).symm, by rw [hF]⟩) ⟨Nat.le_of_ble_eq_true rfl, Nat.le_of_ble_eq_true rfl⟩ dX11_call_37
      · refine lv_aload (pc := 28) hx hb dX11_call_28 (lv_at hl 0 rfl) ?_
        refine c_Vi (pc := 30) (As := []) (rest := []) (wr := [(q0, .inl (g.2.1 1, 40, .inl pH)), (q1, .inl (g.2.1 1, 40, .inl pK)), (q2, .inl (g.2.1 1, 40, .inl pA)), (q3, .inl (g.2.1 1, 40, .inl pB)), (q4, .inl (g.2.1 1, 40, .inl oE)), (v, .inr (10, [.int (nI pe), .int lc, .int de, .ref v3, .ref v4, .ref v5, .ref v6, .ref v7, .ref v8, .ref v9, .ref v10, .ref v11, .ref v12, .ref v13, .int gl, .ref v15])), (h0, .inr (11, [.ref a0, .ref a1, .ref a2, .ref a3, .ref a4, .ref a5, .ref a6, .ref a7, .ref a8, .ref a9, .ref a10, .int (nI nv), .int (nI np), .int cc])), (a2, .inl (g.2.1 5, 12, .inr (.inr (.inr (.inr fB)))))]) X hW 0 ciX4 rfl (K_X4_hasRoom l g q q0 q1 q2 q3 q4 q5 q6 v pc (by omega)) vX11_161 [0] [1, 2, 3, 4, 5, 6, 7, 8] rfl rfl rfl rfl rfl rfl hl.1 rfl (Nat.le_of_ble_eq_true rfl) ⟨Nat.le_of_ble_eq_true rfl, Nat.le_of_ble_eq_true rfl⟩ ⟨Nat.le_of_ble_eq_true rfl, Nat.le_of_ble_eq_true rfl⟩ dX11_call_30 (fun r12 u9 H locs hq hW => ?_)
        obtain ⟨rfl, rfl⟩ := hq
        have hW : WD g A s _ _ [(q0, .inl (g.2.1 1, 40, .inl pH)), (q1, .inl (g.2.1 1, 40, .inl pK)), (q2, .inl (g.2.1 1, 40, .inl pA)), (q3, .inl (g.2.1 1, 40, .inl pB)), (q4, .inl (g.2.1 1, 40, .inl oE)), (v, .inr (10, [.int (nI pe), .int lc, .int de, .ref v3, .ref v4, .ref v5, .ref v6, .ref v7, .ref v8, .ref v9, .ref v10, .ref v11, .ref v12, .ref v13, .int gl, .ref v15])), (h0, .inr (11, [.ref a0, .ref a1, .ref a2, .ref a3, .ref a4, .ref a5, .ref a6, .ref a7, .ref a8, .ref a9, .ref a10, .int (nI nv), .int (nI np), .int cc])), (a2, .inl (g.2.1 5, 12, .inr (.inr (.inr (.inr fB))))), (q, .inr (4, [.ref v, .int (nI pc), .ref q0, .ref q1, .ref q2, .ref q3, .ref q4, .ref q5, .ref q6]))] := hW
        refine lv_if_ne (tgt := 38) (pc := 33) hx hb dX11_call_33 rfl (fun c13 => ?_) (fun c13 => ?_)
        · refine lv_iload_n (pc := 38) hx hb dX11_call_38 rfl (lv_at hl 4 rfl) ?_
          refine lv_iconst (v := 3) (pc := 39) hx hb dX11_call_39 (by decide) ?_
          refine lv_icmp_ne (tgt := 56) (pc := 40) hx hb dX11_call_40 rfl (fun c15 => ?_) (fun c15 => ?_)
          · refine lv_aload (pc := 56) hx hb dX11_call_56 (lv_at hl 0 rfl) ?_
            refine r_getN X hW 8 ciX4 0 rfl (by decide) m_568 rfl rfl dX11_call_58 ?_
            refine lv_iload (pc := 61) hx hb dX11_call_61 (lv_at hl 5 rfl) ?_
            refine lv_iload (pc := 63) hx hb dX11_call_63 (lv_at hl 6 rfl) ?_
            refine c_Vi (pc := 65) (As := [.int on, .int ot]) (rest := []) (wr := [(q0, .inl (g.2.1 1, 40, .inl pH)), (q1, .inl (g.2.1 1, 40, .inl pK)), (q2, .inl (g.2.1 1, 40, .inl pA)), (q3, .inl (g.2.1 1, 40, .inl pB)), (q4, .inl (g.2.1 1, 40, .inl oE)), (h0, .inr (11, [.ref a0, .ref a1, .ref a2, .ref a3, .ref a4, .ref a5, .ref a6, .ref a7, .ref a8, .ref a9, .ref a10, .int (nI nv), .int (nI np), .int cc])), (a2, .inl (g.2.1 5, 12, .inr (.inr (.inr (.inr fB))))), (q, .inr (4, [.ref v, .int (nI pc), .ref q0, .ref q1, .ref q2, .ref q3, .ref q4, .ref q5, .ref q6]))]) X hW 5 ciX10 rfl (K_X10_hasCouple l g v v3 v4 v5 v6 v7 v8 v9 v10 v11 v12 v13 v15 (nI pe) lc de gl on ot) vX11_141 [5] [0, 1, 2, 3, 4, 6, 7, 8] rfl rfl rfl rfl rfl rfl hl.1 rfl (Nat.le_of_ble_eq_true rfl) ⟨Nat.le_of_ble_eq_true rfl, Nat.le_of_ble_eq_true rfl⟩ ⟨Nat.le_of_ble_eq_true rfl, Nat.le_of_ble_eq_true rfl⟩ dX11_call_65 (fun r17 u9 H locs hq hW => ?_)
            obtain ⟨rfl, rfl⟩ := hq
            have hW : WD g A s _ _ [(q0, .inl (g.2.1 1, 40, .inl pH)), (q1, .inl (g.2.1 1, 40, .inl pK)), (q2, .inl (g.2.1 1, 40, .inl pA)), (q3, .inl (g.2.1 1, 40, .inl pB)), (q4, .inl (g.2.1 1, 40, .inl oE)), (h0, .inr (11, [.ref a0, .ref a1, .ref a2, .ref a3, .ref a4, .ref a5, .ref a6, .ref a7, .ref a8, .ref a9, .ref a10, .int (nI nv), .int (nI np), .int cc])), (a2, .inl (g.2.1 5, 12, .inr (.inr (.inr (.inr fB))))), (q, .inr (4, [.ref v, .int (nI pc), .ref q0, .ref q1, .ref q2, .ref q3, .ref q4, .ref q5, .ref q6])), (v, .inr (10, [.int (nI pe), .int lc, .int de, .ref v3, .ref v4, .ref v5, .ref v6, .ref v7, .ref v8, .ref v9, .ref v10, .ref v11, .ref v12, .ref v13, .int gl, .ref v15]))] := hW
            refine lv_istore (lv' := [(7, .int (F_X10_hasCouple (nI pe) on ot)), (6, .ref q), (0, .ref h0), (1, .int (nI i)), (2, .int ho), (3, .int ki), (4, .int on), (5, .int ot)]) (pc := 68) hx hb dX11_call_68 hl (by decide) rfl (fun ls hl => ?_)
            refine lv_iload (pc := 70) hx hb dX11_call_70 (lv_at hl 0 rfl) ?_
            refine lv_if_ne (tgt := 77) (pc := 72) hx hb dX11_call_72 rfl (fun c18 => ?_) (fun c18 => ?_)
            · refine lv_aload_n (pc := 77) hx hb dX11_call_77 rfl (lv_at hl 2 rfl) ?_
              refine lv_dup (pc := 78) hx hb dX11_call_78 rfl ?_
              refine r_get X hW 5 ciX11 13 rfl (by decide) m_366 rfl rfl dX11_call_79 ?_
              refine lv_iconst (v := 1) (pc := 82) hx hb dX11_call_82 (by decide) ?_
              refine lv_iadd (pc := 83) hx hb dX11_call_83 ?_
              refine r_put (ws' := [(q0, .inl (g.2.1 1, 40, .inl pH)), (q1, .inl (g.2.1 1, 40, .inl pK)), (q2, .inl (g.2.1 1, 40, .inl pA)), (q3, .inl (g.2.1 1, 40, .inl pB)), (q4, .inl (g.2.1 1, 40, .inl oE)), (h0, .inr (11, [.ref a0, .ref a1, .ref a2, .ref a3, .ref a4, .ref a5, .ref a6, .ref a7, .ref a8, .ref a9, .ref a10, .int (nI nv), .int (nI np), .int (cc + (1 : Int32))])), (a2, .inl (g.2.1 5, 12, .inr (.inr (.inr (.inr fB))))), (q, .inr (4, [.ref v, .int (nI pc), .ref q0, .ref q1, .ref q2, .ref q3, .ref q4, .ref q5, .ref q6])), (v, .inr (10, [.int (nI pe), .int lc, .int de, .ref v3, .ref v4, .ref v5, .ref v6, .ref v7, .ref v8, .ref v9, .ref v10, .ref v11, .ref v12, .ref v13, .int gl, .ref v15]))]) X hW 5 ciX11 13 rfl (by decide) m_366 rfl rfl rfl rfl (Nat.le_of_ble_eq_true rfl) rfl dX11_call_84 (fun H locs hW => ?_)
              refine lv_aload (pc := 87) hx hb dX11_call_87 (lv_at hl 1 rfl) ?_
              refine lv_iload_n (pc := 89) hx hb dX11_call_89 rfl (lv_at hl 4 rfl) ?_
              refine lv_iload_n (pc := 90) hx hb dX11_call_90 rfl (lv_at hl 5 rfl) ?_
              refine lv_iload (pc := 91) hx hb dX11_call_91 (lv_at hl 6 rfl) ?_
              refine lv_iload (pc := 93) hx hb dX11_call_93 (lv_at hl 7 rfl) ?_
              refine c_Vi (pc := 95) (As := [.int ho, .int ki, .int on, .int ot]) (rest := []) (wr := [(h0, .inr (11, [.ref a0, .ref a1, .ref a2, .ref a3, .ref a4, .ref a5, .ref a6, .ref a7, .ref a8, .ref a9, .ref a10, .int (nI nv), .int (nI np), .int (cc + (1 : Int32))])), (a2, .inl (g.2.1 5, 12, .inr (.inr (.inr (.inr fB))))), (v, .inr (10, [.int (nI pe), .int lc, .int de, .ref v3, .ref v4, .ref v5, .ref v6, .ref v7, .ref v8, .ref v9, .ref v10, .ref v11, .ref v12, .ref v13, .int gl, .ref v15]))]) X hW 7 ciX4 rfl (K_X4_append l g q q0 q1 q2 q3 q4 q5 q6 v pc pH pK pA pB oE ho ki on ot (by omega) hoe) vX11_174 [7, 0, 1, 2, 3, 4] [5, 6, 8] rfl rfl rfl rfl rfl rfl hl.1 rfl (Nat.le_of_ble_eq_true rfl) ⟨Nat.le_of_ble_eq_true rfl, Nat.le_of_ble_eq_true rfl⟩ ⟨Nat.le_of_ble_eq_true rfl, Nat.le_of_ble_eq_true rfl⟩ dX11_call_95 (fun r20 u9 H locs hq hW => ?_)
              obtain ⟨rfl, rfl⟩ := hq
              have hW : WD g A s _ _ [(h0, .inr (11, [.ref a0, .ref a1, .ref a2, .ref a3, .ref a4, .ref a5, .ref a6, .ref a7, .ref a8, .ref a9, .ref a10, .int (nI nv), .int (nI np), .int (cc + (1 : Int32))])), (a2, .inl (g.2.1 5, 12, .inr (.inr (.inr (.inr fB))))), (v, .inr (10, [.int (nI pe), .int lc, .int de, .ref v3, .ref v4, .ref v5, .ref v6, .ref v7, .ref v8, .ref v9, .ref v10, .ref v11, .ref v12, .ref v13, .int gl, .ref v15])), (q, .inr (4, [.ref v, .int ((F_X4_append pc pH pK pA pB oE ho ki on ot).2.1), .ref q0, .ref q1, .ref q2, .ref q3, .ref q4, .ref q5, .ref q6])), (q0, .inl (g.2.1 1, 40, .inl ((F_X4_append pc pH pK pA pB oE ho ki on ot).2.2.1))), (q1, .inl (g.2.1 1, 40, .inl ((F_X4_append pc pH pK pA pB oE ho ki on ot).2.2.2.1))), (q2, .inl (g.2.1 1, 40, .inl ((F_X4_append pc pH pK pA pB oE ho ki on ot).2.2.2.2.1))), (q3, .inl (g.2.1 1, 40, .inl ((F_X4_append pc pH pK pA pB oE ho ki on ot).2.2.2.2.2.1))), (q4, .inl (g.2.1 1, 40, .inl ((F_X4_append pc pH pK pA pB oE ho ki on ot).2.2.2.2.2.2)))] := hW
              have hF : F_X11_call1 cc pc pe pH pK pA pB oE ho ki on ot = ((F_X4_append pc pH pK pA pB oE ho ki on ot).1, cc + (1 : Int32), (F_X4_append pc pH pK pA pB oE ho ki on ot).2.1, ((F_X4_append pc pH pK pA pB oE ho ki on ot).2.2.1), ((F_X4_append pc pH pK pA pB oE ho ki on ot).2.2.2.1), ((F_X4_append pc pH pK pA pB oE ho ki on ot).2.2.2.2.1), ((F_X4_append pc pH pK pA pB oE ho ki on ot).2.2.2.2.2.1), ((F_X4_append pc pH pK pA pB oE ho ki on ot).2.2.2.2.2.2)) := show F_X11_call1 cc pc pe pH pK pA pB oE ho ki on ot = ((F_X4_append pc pH pK pA pB oE ho ki on ot).1, cc + (1 : Int32), (F_X4_append pc pH pK pA pB oE ho ki on ot).2.1, ((F_X4_append pc pH pK pA pB oE ho ki on ot).2.2.1), ((F_X4_append pc pH pK pA pB oE ho ki on ot).2.2.2.1), ((F_X4_append pc pH pK pA pB oE ho ki on ot).2.2.2.2.1), ((F_X4_append pc pH pK pA pB oE ho ki on ot).2.2.2.2.2.1), ((F_X4_append pc pH pK pA pB oE ho ki on ot).2.2.2.2.2.2)) from by rw [F_X11_call1, if_neg c3, if_neg c6, if_neg c9, if_neg c13, if_neg c15, if_neg c18]
              exact e_i (u := [(h0, .inr (11, [.ref a0, .ref a1, .ref a2, .ref a3, .ref a4, .ref a5, .ref a6, .ref a7, .ref a8, .ref a9, .ref a10, .int (nI nv), .int (nI np), .int (cc + (1 : Int32))])), (a2, .inl (g.2.1 5, 12, .inr (.inr (.inr (.inr fB))))), (q, .inr (4, [.ref v, .int ((F_X4_append pc pH pK pA pB oE ho ki on ot).2.1), .ref q0, .ref q1, .ref q2, .ref q3, .ref q4, .ref q5, .ref q6])), (q0, .inl (g.2.1 1, 40, .inl ((F_X4_append pc pH pK pA pB oE ho ki on ot).2.2.1))), (q1, .inl (g.2.1 1, 40, .inl ((F_X4_append pc pH pK pA pB oE ho ki on ot).2.2.2.1))), (q2, .inl (g.2.1 1, 40, .inl ((F_X4_append pc pH pK pA pB oE ho ki on ot).2.2.2.2.1))), (q3, .inl (g.2.1 1, 40, .inl ((F_X4_append pc pH pK pA pB oE ho ki on ot).2.2.2.2.2.1))), (q4, .inl (g.2.1 1, 40, .inl ((F_X4_append pc pH pK pA pB oE ho ki on ot).2.2.2.2.2.2))), (v, .inr (10, [.int (nI pe), .int lc, .int de, .ref v3, .ref v4, .ref v5, .ref v6, .ref v7, .ref v8, .ref v9, .ref v10, .ref v11, .ref v12, .ref v13, .int gl, .ref v15]))]) X hQ hr (hW) [0, 1, 3, 4, 5, 6, 7, 8, 2] rfl rfl (⟨(congrArg Prod.fst hF).symm, by rw [hF]⟩) ⟨Nat.le_of_ble_eq_true rfl, Nat.le_of_ble_eq_true rfl⟩ dX11_call_98
            · refine lv_iconst (v := (-1)) (pc := 75) hx hb dX11_call_75 (by decide) ?_
              have hF : F_X11_call1 cc pc pe pH pK pA pB oE ho ki on ot = ((-1 : Int32), cc, nI pc, pH, pK, pA, pB, oE) := show F_X11_call1 cc pc pe pH pK pA pB oE ho ki on ot = ((-1 : Int32), cc, nI pc, pH, pK, pA, pB, oE) from by rw [F_X11_call1, if_neg c3, if_neg c6, if_neg c9, if_neg c13, if_neg c15, if_pos c18]
              exact e_i (u := [(h0, .inr (11, [.ref a0, .ref a1, .ref a2, .ref a3, .ref a4, .ref a5, .ref a6, .ref a7, .ref a8, .ref a9, .ref a10, .int (nI nv), .int (nI np), .int cc])), (a2, .inl (g.2.1 5, 12, .inr (.inr (.inr (.inr fB))))), (q, .inr (4, [.ref v, .int (nI pc), .ref q0, .ref q1, .ref q2, .ref q3, .ref q4, .ref q5, .ref q6])), (q0, .inl (g.2.1 1, 40, .inl pH)), (q1, .inl (g.2.1 1, 40, .inl pK)), (q2, .inl (g.2.1 1, 40, .inl pA)), (q3, .inl (g.2.1 1, 40, .inl pB)), (q4, .inl (g.2.1 1, 40, .inl oE)), (v, .inr (10, [.int (nI pe), .int lc, .int de, .ref v3, .ref v4, .ref v5, .ref v6, .ref v7, .ref v8, .ref v9, .ref v10, .ref v11, .ref v12, .ref v13, .int gl, .ref v15]))]) X hQ hr (hW) [5, 6, 7, 0, 1, 2, 3, 4, 8] rfl rfl (⟨(congrArg Prod.fst hF).symm, by rw [hF]⟩) ⟨Nat.le_of_ble_eq_true rfl, Nat.le_of_ble_eq_true rfl⟩ dX11_call_76
          · refine lv_aload (pc := 43) hx hb dX11_call_43 (lv_at hl 0 rfl) ?_
            refine r_getN X hW 8 ciX4 0 rfl (by decide) m_568 rfl rfl dX11_call_45 ?_
            refine lv_iload (pc := 48) hx hb dX11_call_48 (lv_at hl 5 rfl) ?_
            refine c_Vi (pc := 50) (As := [.int on]) (rest := []) (wr := [(q0, .inl (g.2.1 1, 40, .inl pH)), (q1, .inl (g.2.1 1, 40, .inl pK)), (q2, .inl (g.2.1 1, 40, .inl pA)), (q3, .inl (g.2.1 1, 40, .inl pB)), (q4, .inl (g.2.1 1, 40, .inl oE)), (h0, .inr (11, [.ref a0, .ref a1, .ref a2, .ref a3, .ref a4, .ref a5, .ref a6, .ref a7, .ref a8, .ref a9, .ref a10, .int (nI nv), .int (nI np), .int cc])), (a2, .inl (g.2.1 5, 12, .inr (.inr (.inr (.inr fB))))), (q, .inr (4, [.ref v, .int (nI pc), .ref q0, .ref q1, .ref q2, .ref q3, .ref q4, .ref q5, .ref q6]))]) X hW 5 ciX10 rfl (K_X10_hasPerson l g v v3 v4 v5 v6 v7 v8 v9 v10 v11 v12 v13 v15 (nI pe) lc de gl on) vX11_168 [5] [0, 1, 2, 3, 4, 6, 7, 8] rfl rfl rfl rfl rfl rfl hl.1 rfl (Nat.le_of_ble_eq_true rfl) ⟨Nat.le_of_ble_eq_true rfl, Nat.le_of_ble_eq_true rfl⟩ ⟨Nat.le_of_ble_eq_true rfl, Nat.le_of_ble_eq_true rfl⟩ dX11_call_50 (fun r23 u9 H locs hq hW => ?_)
            obtain ⟨rfl, rfl⟩ := hq
            have hW : WD g A s _ _ [(q0, .inl (g.2.1 1, 40, .inl pH)), (q1, .inl (g.2.1 1, 40, .inl pK)), (q2, .inl (g.2.1 1, 40, .inl pA)), (q3, .inl (g.2.1 1, 40, .inl pB)), (q4, .inl (g.2.1 1, 40, .inl oE)), (h0, .inr (11, [.ref a0, .ref a1, .ref a2, .ref a3, .ref a4, .ref a5, .ref a6, .ref a7, .ref a8, .ref a9, .ref a10, .int (nI nv), .int (nI np), .int cc])), (a2, .inl (g.2.1 5, 12, .inr (.inr (.inr (.inr fB))))), (q, .inr (4, [.ref v, .int (nI pc), .ref q0, .ref q1, .ref q2, .ref q3, .ref q4, .ref q5, .ref q6])), (v, .inr (10, [.int (nI pe), .int lc, .int de, .ref v3, .ref v4, .ref v5, .ref v6, .ref v7, .ref v8, .ref v9, .ref v10, .ref v11, .ref v12, .ref v13, .int gl, .ref v15]))] := hW
            refine lv_goto (tgt := 68) (pc := 53) hx hb dX11_call_53 rfl ?_
            refine lv_istore (lv' := [(7, .int (F_X10_hasPerson (nI pe) on)), (6, .ref q), (0, .ref h0), (1, .int (nI i)), (2, .int ho), (3, .int ki), (4, .int on), (5, .int ot)]) (pc := 68) hx hb dX11_call_68 hl (by decide) rfl (fun ls hl => ?_)
            refine lv_iload (pc := 70) hx hb dX11_call_70 (lv_at hl 0 rfl) ?_
            refine lv_if_ne (tgt := 77) (pc := 72) hx hb dX11_call_72 rfl (fun c24 => ?_) (fun c24 => ?_)
            · refine lv_aload_n (pc := 77) hx hb dX11_call_77 rfl (lv_at hl 2 rfl) ?_
              refine lv_dup (pc := 78) hx hb dX11_call_78 rfl ?_
              refine r_get X hW 5 ciX11 13 rfl (by decide) m_366 rfl rfl dX11_call_79 ?_
              refine lv_iconst (v := 1) (pc := 82) hx hb dX11_call_82 (by decide) ?_
              refine lv_iadd (pc := 83) hx hb dX11_call_83 ?_
              refine r_put (ws' := [(q0, .inl (g.2.1 1, 40, .inl pH)), (q1, .inl (g.2.1 1, 40, .inl pK)), (q2, .inl (g.2.1 1, 40, .inl pA)), (q3, .inl (g.2.1 1, 40, .inl pB)), (q4, .inl (g.2.1 1, 40, .inl oE)), (h0, .inr (11, [.ref a0, .ref a1, .ref a2, .ref a3, .ref a4, .ref a5, .ref a6, .ref a7, .ref a8, .ref a9, .ref a10, .int (nI nv), .int (nI np), .int (cc + (1 : Int32))])), (a2, .inl (g.2.1 5, 12, .inr (.inr (.inr (.inr fB))))), (q, .inr (4, [.ref v, .int (nI pc), .ref q0, .ref q1, .ref q2, .ref q3, .ref q4, .ref q5, .ref q6])), (v, .inr (10, [.int (nI pe), .int lc, .int de, .ref v3, .ref v4, .ref v5, .ref v6, .ref v7, .ref v8, .ref v9, .ref v10, .ref v11, .ref v12, .ref v13, .int gl, .ref v15]))]) X hW 5 ciX11 13 rfl (by decide) m_366 rfl rfl rfl rfl (Nat.le_of_ble_eq_true rfl) rfl dX11_call_84 (fun H locs hW => ?_)
              refine lv_aload (pc := 87) hx hb dX11_call_87 (lv_at hl 1 rfl) ?_
              refine lv_iload_n (pc := 89) hx hb dX11_call_89 rfl (lv_at hl 4 rfl) ?_
              refine lv_iload_n (pc := 90) hx hb dX11_call_90 rfl (lv_at hl 5 rfl) ?_
              refine lv_iload (pc := 91) hx hb dX11_call_91 (lv_at hl 6 rfl) ?_
              refine lv_iload (pc := 93) hx hb dX11_call_93 (lv_at hl 7 rfl) ?_
              refine c_Vi (pc := 95) (As := [.int ho, .int ki, .int on, .int ot]) (rest := []) (wr := [(h0, .inr (11, [.ref a0, .ref a1, .ref a2, .ref a3, .ref a4, .ref a5, .ref a6, .ref a7, .ref a8, .ref a9, .ref a10, .int (nI nv), .int (nI np), .int (cc + (1 : Int32))])), (a2, .inl (g.2.1 5, 12, .inr (.inr (.inr (.inr fB))))), (v, .inr (10, [.int (nI pe), .int lc, .int de, .ref v3, .ref v4, .ref v5, .ref v6, .ref v7, .ref v8, .ref v9, .ref v10, .ref v11, .ref v12, .ref v13, .int gl, .ref v15]))]) X hW 7 ciX4 rfl (K_X4_append l g q q0 q1 q2 q3 q4 q5 q6 v pc pH pK pA pB oE ho ki on ot (by omega) hoe) vX11_174 [7, 0, 1, 2, 3, 4] [5, 6, 8] rfl rfl rfl rfl rfl rfl hl.1 rfl (Nat.le_of_ble_eq_true rfl) ⟨Nat.le_of_ble_eq_true rfl, Nat.le_of_ble_eq_true rfl⟩ ⟨Nat.le_of_ble_eq_true rfl, Nat.le_of_ble_eq_true rfl⟩ dX11_call_95 (fun r26 u9 H locs hq hW => ?_)
              obtain ⟨rfl, rfl⟩ := hq
              have hW : WD g A s _ _ [(h0, .inr (11, [.ref a0, .ref a1, .ref a2, .ref a3, .ref a4, .ref a5, .ref a6, .ref a7, .ref a8, .ref a9, .ref a10, .int (nI nv), .int (nI np), .int (cc + (1 : Int32))])), (a2, .inl (g.2.1 5, 12, .inr (.inr (.inr (.inr fB))))), (v, .inr (10, [.int (nI pe), .int lc, .int de, .ref v3, .ref v4, .ref v5, .ref v6, .ref v7, .ref v8, .ref v9, .ref v10, .ref v11, .ref v12, .ref v13, .int gl, .ref v15])), (q, .inr (4, [.ref v, .int ((F_X4_append pc pH pK pA pB oE ho ki on ot).2.1), .ref q0, .ref q1, .ref q2, .ref q3, .ref q4, .ref q5, .ref q6])), (q0, .inl (g.2.1 1, 40, .inl ((F_X4_append pc pH pK pA pB oE ho ki on ot).2.2.1))), (q1, .inl (g.2.1 1, 40, .inl ((F_X4_append pc pH pK pA pB oE ho ki on ot).2.2.2.1))), (q2, .inl (g.2.1 1, 40, .inl ((F_X4_append pc pH pK pA pB oE ho ki on ot).2.2.2.2.1))), (q3, .inl (g.2.1 1, 40, .inl ((F_X4_append pc pH pK pA pB oE ho ki on ot).2.2.2.2.2.1))), (q4, .inl (g.2.1 1, 40, .inl ((F_X4_append pc pH pK pA pB oE ho ki on ot).2.2.2.2.2.2)))] := hW
              have hF : F_X11_call1 cc pc pe pH pK pA pB oE ho ki on ot = ((F_X4_append pc pH pK pA pB oE ho ki on ot).1, cc + (1 : Int32), (F_X4_append pc pH pK pA pB oE ho ki on ot).2.1, ((F_X4_append pc pH pK pA pB oE ho ki on ot).2.2.1), ((F_X4_append pc pH pK pA pB oE ho ki on ot).2.2.2.1), ((F_X4_append pc pH pK pA pB oE ho ki on ot).2.2.2.2.1), ((F_X4_append pc pH pK pA pB oE ho ki on ot).2.2.2.2.2.1), ((F_X4_append pc pH pK pA pB oE ho ki on ot).2.2.2.2.2.2)) := show F_X11_call1 cc pc pe pH pK pA pB oE ho ki on ot = ((F_X4_append pc pH pK pA pB oE ho ki on ot).1, cc + (1 : Int32), (F_X4_append pc pH pK pA pB oE ho ki on ot).2.1, ((F_X4_append pc pH pK pA pB oE ho ki on ot).2.2.1), ((F_X4_append pc pH pK pA pB oE ho ki on ot).2.2.2.1), ((F_X4_append pc pH pK pA pB oE ho ki on ot).2.2.2.2.1), ((F_X4_append pc pH pK pA pB oE ho ki on ot).2.2.2.2.2.1), ((F_X4_append pc pH pK pA pB oE ho ki on ot).2.2.2.2.2.2)) from by rw [F_X11_call1, if_neg c3, if_neg c6, if_neg c9, if_neg c13, if_pos c15, if_neg c24]
              exact e_i (u := [(h0, .inr (11, [.ref a0, .ref a1, .ref a2, .ref a3, .ref a4, .ref a5, .ref a6, .ref a7, .ref a8, .ref a9, .ref a10, .int (nI nv), .int (nI np), .int (cc + (1 : Int32))])), (a2, .inl (g.2.1 5, 12, .inr (.inr (.inr (.inr fB))))), (q, .inr (4, [.ref v, .int ((F_X4_append pc pH pK pA pB oE ho ki on ot).2.1), .ref q0, .ref q1, .ref q2, .ref q3, .ref q4, .ref q5, .ref q6])), (q0, .inl (g.2.1 1, 40, .inl ((F_X4_append pc pH pK pA pB oE ho ki on ot).2.2.1))), (q1, .inl (g.2.1 1, 40, .inl ((F_X4_append pc pH pK pA pB oE ho ki on ot).2.2.2.1))), (q2, .inl (g.2.1 1, 40, .inl ((F_X4_append pc pH pK pA pB oE ho ki on ot).2.2.2.2.1))), (q3, .inl (g.2.1 1, 40, .inl ((F_X4_append pc pH pK pA pB oE ho ki on ot).2.2.2.2.2.1))), (q4, .inl (g.2.1 1, 40, .inl ((F_X4_append pc pH pK pA pB oE ho ki on ot).2.2.2.2.2.2))), (v, .inr (10, [.int (nI pe), .int lc, .int de, .ref v3, .ref v4, .ref v5, .ref v6, .ref v7, .ref v8, .ref v9, .ref v10, .ref v11, .ref v12, .ref v13, .int gl, .ref v15]))]) X hQ hr (hW) [0, 1, 3, 4, 5, 6, 7, 8, 2] rfl rfl (⟨(congrArg Prod.fst hF).symm, by rw [hF]⟩) ⟨Nat.le_of_ble_eq_true rfl, Nat.le_of_ble_eq_true rfl⟩ dX11_call_98
            · refine lv_iconst (v := (-1)) (pc := 75) hx hb dX11_call_75 (by decide) ?_
              have hF : F_X11_call1 cc pc pe pH pK pA pB oE ho ki on ot = ((-1 : Int32), cc, nI pc, pH, pK, pA, pB, oE) := show F_X11_call1 cc pc pe pH pK pA pB oE ho ki on ot = ((-1 : Int32), cc, nI pc, pH, pK, pA, pB, oE) from by rw [F_X11_call1, if_neg c3, if_neg c6, if_neg c9, if_neg c13, if_pos c15, if_pos c24]
              exact e_i (u := [(h0, .inr (11, [.ref a0, .ref a1, .ref a2, .ref a3, .ref a4, .ref a5, .ref a6, .ref a7, .ref a8, .ref a9, .ref a10, .int (nI nv), .int (nI np), .int cc])), (a2, .inl (g.2.1 5, 12, .inr (.inr (.inr (.inr fB))))), (q, .inr (4, [.ref v, .int (nI pc), .ref q0, .ref q1, .ref q2, .ref q3, .ref q4, .ref q5, .ref q6])), (q0, .inl (g.2.1 1, 40, .inl pH)), (q1, .inl (g.2.1 1, 40, .inl pK)), (q2, .inl (g.2.1 1, 40, .inl pA)), (q3, .inl (g.2.1 1, 40, .inl pB)), (q4, .inl (g.2.1 1, 40, .inl oE)), (v, .inr (10, [.int (nI pe), .int lc, .int de, .ref v3, .ref v4, .ref v5, .ref v6, .ref v7, .ref v8, .ref v9, .ref v10, .ref v11, .ref v12, .ref v13, .int gl, .ref v15]))]) X hQ hr (hW) [5, 6, 7, 0, 1, 2, 3, 4, 8] rfl rfl (⟨(congrArg Prod.fst hF).symm, by rw [hF]⟩) ⟨Nat.le_of_ble_eq_true rfl, Nat.le_of_ble_eq_true rfl⟩ dX11_call_76
        · refine lv_iconst (v := (-1)) (pc := 36) hx hb dX11_call_36 (by decide) ?_
          have hF : F_X11_call1 cc pc pe pH pK pA pB oE ho ki on ot = ((-1 : Int32), cc, nI pc, pH, pK, pA, pB, oE) := show F_X11_call1 cc pc pe pH pK pA pB oE ho ki on ot = ((-1 : Int32), cc, nI pc, pH, pK, pA, pB, oE) from by rw [F_X11_call1, if_neg c3, if_neg c6, if_neg c9, if_pos c13]
          exact e_i (u := [(h0, .inr (11, [.ref a0, .ref a1, .ref a2, .ref a3, .ref a4, .ref a5, .ref a6, .ref a7, .ref a8, .ref a9, .ref a10, .int (nI nv), .int (nI np), .int cc])), (a2, .inl (g.2.1 5, 12, .inr (.inr (.inr (.inr fB))))), (q, .inr (4, [.ref v, .int (nI pc), .ref q0, .ref q1, .ref q2, .ref q3, .ref q4, .ref q5, .ref q6])), (q0, .inl (g.2.1 1, 40, .inl pH)), (q1, .inl (g.2.1 1, 40, .inl pK)), (q2, .inl (g.2.1 1, 40, .inl pA)), (q3, .inl (g.2.1 1, 40, .inl pB)), (q4, .inl (g.2.1 1, 40, .inl oE)), (v, .inr (10, [.int (nI pe), .int lc, .int de, .ref v3, .ref v4, .ref v5, .ref v6, .ref v7, .ref v8, .ref v9, .ref v10, .ref v11, .ref v12, .ref v13, .int gl, .ref v15]))]) X hQ hr (hW) [6, 7, 8, 0, 1, 2, 3, 4, 5] rfl rfl (⟨(congrArg Prod.fst hF).symm, by rw [hF]⟩) ⟨Nat.le_of_ble_eq_true rfl, Nat.le_of_ble_eq_true rfl⟩ dX11_call_37

def F_X11_call0  : Int32 := (-1 : Int32)
set_option maxHeartbeats 4000000 in
set_option maxRecDepth 100000 in
theorem K_X11_call0 (l : Launch) (g : GG) (h0 : Nat) (a0 : Nat) (a1 : Nat) (a2 : Nat) (a3 : Nat) (a4 : Nat) (a5 : Nat) (a6 : Nat) (a7 : Nat) (a8 : Nat) (a9 : Nat) (a10 : Nat) (nv : Nat) (np : Nat) (cc : Int32) (fB : Nat → Option Nat) (x : Int32) (ho : Int32) (ki : Int32) (on : Int32) (ot : Int32) (hbad : x < 0 ∨ nI np ≤ x) : MetI l g yX11_call cX11_call 8 (some .int) 1 0 0 [.ref h0, .int x, .int ho, .int ki, .int on, .int ot] [(h0, .inr (11, [.ref a0, .ref a1, .ref a2, .ref a3, .ref a4, .ref a5, .ref a6, .ref a7, .ref a8, .ref a9, .ref a10, .int (nI nv), .int (nI np), .int cc])), (a2, .inl (g.2.1 5, 12, .inr (.inr (.inr (.inr fB)))))] (fun r u => r = F_X11_call0 ∧ u = [(h0, .inr (11, [.ref a0, .ref a1, .ref a2, .ref a3, .ref a4, .ref a5, .ref a6, .ref a7, .ref a8, .ref a9, .ref a10, .int (nI nv), .int (nI np), .int cc])), (a2, .inl (g.2.1 5, 12, .inr (.inr (.inr (.inr fB)))))]) := by
  refine MetI.of (own := RX11) rfl (by decide) (Nat.le_of_ble_eq_true rfl) ?_
  intro p e s m below meth c A ls args Q hQ X hr hin hW hl
  have hx := X.1
  have hb := X.2.1
  have hl : lv_has ls 8 [(0, .ref h0), (1, .int x), (2, .int ho), (3, .int ki), (4, .int on), (5, .int ot)] := hl
  refine lv_aload_n (pc := 0) hx hb dX11_call_0 rfl (lv_at hl 0 rfl) ?_
  refine lv_iload_n (pc := 1) hx hb dX11_call_1 rfl (lv_at hl 1 rfl) ?_
  refine c_Vq (pc := 2) (As := [.int x]) (rest := []) (wr := []) X hW 0 ciX11 rfl (C_X11_planAt0 l g h0 a0 a1 a2 a3 a4 a5 a6 a7 a8 a9 a10 nv np cc fB x hbad) vX11_157 [0, 1] [] rfl rfl rfl rfl rfl rfl hl.1 rfl (Nat.le_of_ble_eq_true rfl) ⟨Nat.le_of_ble_eq_true rfl, Nat.le_of_ble_eq_true rfl⟩ ⟨Nat.le_of_ble_eq_true rfl, Nat.le_of_ble_eq_true rfl⟩ dX11_call_2 (fun r1 u9 H locs hq hW => ?_)
  obtain ⟨rfl, rfl⟩ := hq
  have hW : WD g A s _ _ [(h0, .inr (11, [.ref a0, .ref a1, .ref a2, .ref a3, .ref a4, .ref a5, .ref a6, .ref a7, .ref a8, .ref a9, .ref a10, .int (nI nv), .int (nI np), .int cc])), (a2, .inl (g.2.1 5, 12, .inr (.inr (.inr (.inr fB)))))] := hW
  refine lv_astoreN (lv' := [(6, .null), (0, .ref h0), (1, .int x), (2, .int ho), (3, .int ki), (4, .int on), (5, .int ot)]) (pc := 5) hx hb dX11_call_5 hl (by decide) rfl (fun ls hl => ?_)
  refine lv_aloadN (pc := 7) hx hb dX11_call_7 (lv_at hl 0 rfl) ?_
  refine lv_ifnullN (tgt := 36) (pc := 9) hx hb dX11_call_9 rfl ?_
  refine lv_iconst (v := (-1)) (pc := 36) hx hb dX11_call_36 (by decide) ?_
  have hF : F_X11_call0 = (-1 : Int32) := show F_X11_call0 = (-1 : Int32) from rfl
  exact e_i (u := [(h0, .inr (11, [.ref a0, .ref a1, .ref a2, .ref a3, .ref a4, .ref a5, .ref a6, .ref a7, .ref a8, .ref a9, .ref a10, .int (nI nv), .int (nI np), .int cc])), (a2, .inl (g.2.1 5, 12, .inr (.inr (.inr (.inr fB)))))]) X hQ hr (hW) [0, 1] rfl rfl (⟨hF.symm, rfl⟩) ⟨Nat.le_of_ble_eq_true rfl, Nat.le_of_ble_eq_true rfl⟩ dX11_call_37

def F_X12_call (np : Nat) (rP : Nat → Int32) (pO : Nat → Int32) (pC : Nat → Int32) (pH : Nat → Int32) (pK : Nat → Int32) (pA : Nat → Int32) (pB : Nat → Int32) (x : Int32) (ho : Int32) (ki : Int32) (on : Int32) (ot : Int32) : Int32 × (Nat → Int32) × (Nat → Int32) × (Nat → Int32) × (Nat → Int32) × (Nat → Int32) := if F_X12_isPlan np x = 0 then (((-1 : Int32), pC, pH, pK, pA, pB)) else (if nI (tN (pC (tN x))) = 40 then (((-1 : Int32), pC, pH, pK, pA, pB)) else (if F_X12_isHour ho = 0 then (((-1 : Int32), pC, pH, pK, pA, pB)) else (if F_X12_isIn ki (0 : Int32) (4 : Int32) = 0 then (((-1 : Int32), pC, pH, pK, pA, pB)) else (if F_X12_isPerson rP (tN (pO (tN x))) on = 0 then (((-1 : Int32), pC, pH, pK, pA, pB)) else (if ki = 3 then ((((upd pC (tN x) ((pC (tN x)) + (1 : Int32))) (tN x)) - (1 : Int32), (upd pC (tN x) ((pC (tN x)) + (1 : Int32))), (upd pH (40 * (tN x) + tN (pC (tN x))) ho), (upd pK (40 * (tN x) + tN (pC (tN x))) ki), (upd pA (40 * (tN x) + tN (pC (tN x))) on), (upd pB (40 * (tN x) + tN (pC (tN x))) ot))) else (if F_X12_isPerson rP (tN (pO (tN x))) ot = 0 then (((-1 : Int32), pC, pH, pK, pA, pB)) else (if on = ot then (((-1 : Int32), pC, pH, pK, pA, pB)) else ((((upd pC (tN x) ((pC (tN x)) + (1 : Int32))) (tN x)) - (1 : Int32), (upd pC (tN x) ((pC (tN x)) + (1 : Int32))), (upd pH (40 * (tN x) + tN (pC (tN x))) ho), (upd pK (40 * (tN x) + tN (pC (tN x))) ki), (upd pA (40 * (tN x) + tN (pC (tN x))) on), (upd pB (40 * (tN x) + tN (pC (tN x))) ot))))))))))
set_option maxHeartbeats 4000000 in
set_option maxRecDepth 100000 in
theorem K_X12_call (l : Launch) (g : GG) (h0 : Nat) (vs : List Value) (np : Nat) (b6 : Nat) (rP : Nat → Int32) (b21 : Nat) (pO : Nat → Int32) (b22 : Nat) (pC : Nat → Int32) (b23 : Nat) (pH : Nat → Int32) (b24 : Nat) (pK : Nat → Int32) (b25 : Nat) (pA : Nat → Int32) (b26 : Nat) (pB : Nat → Int32) (x : Int32) (ho : Int32) (ki : Int32) (on : Int32) (ot : Int32) (hlen : vs.length = 64) (h27_ : vs[27]? = some (.int (nI np))) (h6_ : vs[6]? = some (.ref b6)) (h21_ : vs[21]? = some (.ref b21)) (h22_ : vs[22]? = some (.ref b22)) (h23_ : vs[23]? = some (.ref b23)) (h24_ : vs[24]? = some (.ref b24)) (h25_ : vs[25]? = some (.ref b25)) (h26_ : vs[26]? = some (.ref b26)) (hnp : np ≤ 12) (hpO : ∀ j : Nat, j < np → pO j = nI (tN (pO j)) ∧ tN (pO j) < 10) (hpC : ∀ j : Nat, j < np → pC j = nI (tN (pC j)) ∧ tN (pC j) ≤ 40) : MetI l g yX12_call cX12_call 7 (some .int) 2 0 0 [.ref h0, .int x, .int ho, .int ki, .int on, .int ot] [(h0, .inr (12, vs)), (b6, .inl (g.2.1 1, 11, .inl rP)), (b21, .inl (g.2.1 1, 12, .inl pO)), (b22, .inl (g.2.1 1, 12, .inl pC)), (b23, .inl (g.2.1 1, 480, .inl pH)), (b24, .inl (g.2.1 1, 480, .inl pK)), (b25, .inl (g.2.1 1, 480, .inl pA)), (b26, .inl (g.2.1 1, 480, .inl pB))] (fun r u => r = (F_X12_call np rP pO pC pH pK pA pB x ho ki on ot).1 ∧ u = [(h0, .inr (12, (vs.set 0 (.int 0)))), (b6, .inl (g.2.1 1, 11, .inl rP)), (b21, .inl (g.2.1 1, 12, .inl pO)), (b22, .inl (g.2.1 1, 12, .inl ((F_X12_call np rP pO pC pH pK pA pB x ho ki on ot).2.1))), (b23, .inl (g.2.1 1, 480, .inl ((F_X12_call np rP pO pC pH pK pA pB x ho ki on ot).2.2.1))), (b24, .inl (g.2.1 1, 480, .inl ((F_X12_call np rP pO pC pH pK pA pB x ho ki on ot).2.2.2.1))), (b25, .inl (g.2.1 1, 480, .inl ((F_X12_call np rP pO pC pH pK pA pB x ho ki on ot).2.2.2.2.1))), (b26, .inl (g.2.1 1, 480, .inl ((F_X12_call np rP pO pC pH pK pA pB x ho ki on ot).2.2.2.2.2)))]) := by
  refine MetI.of (own := RX12) rfl (by decide) (Nat.le_of_ble_eq_true rfl) ?_
  intro p e s m below meth c A ls args Q hQ X hr hin hW hl
  have hx := X.1
  have hb := X.2.1
  have hl : lv_has ls 7 [(0, .ref h0), (1, .int x), (2, .int ho), (3, .int ki), (4, .int on), (5, .int ot)] := hl
  refine lv_aload_n (pc := 0) hx hb dX12_call_0 rfl (lv_at hl 0 rfl) ?_
  refine lv_iconst (v := 0) (pc := 1) hx hb dX12_call_1 (by decide) ?_
  refine r_put (ws' := [(h0, .inr (12, (vs.set 0 (.int 0)))), (b6, .inl (g.2.1 1, 11, .inl rP)), (b21, .inl (g.2.1 1, 12, .inl pO)), (b22, .inl (g.2.1 1, 12, .inl pC)), (b23, .inl (g.2.1 1, 480, .inl pH)), (b24, .inl (g.2.1 1, 480, .inl pK)), (b25, .inl (g.2.1 1, 480, .inl pA)), (b26, .inl (g.2.1 1, 480, .inl pB))]) X hW 0 ciX12 0 rfl (by decide) m_1231 rfl rfl rfl rfl (sv_lt (by decide) hlen) rfl dX12_call_2 (fun H locs hW => ?_)
  refine lv_aload_n (pc := 5) hx hb dX12_call_5 rfl (lv_at hl 0 rfl) ?_
  refine lv_iload_n (pc := 6) hx hb dX12_call_6 rfl (lv_at hl 1 rfl) ?_
  refine c_Vi (pc := 7) (As := [.int x]) (rest := []) (wr := [(b6, .inl (g.2.1 1, 11, .inl rP)), (b21, .inl (g.2.1 1, 12, .inl pO)), (b22, .inl (g.2.1 1, 12, .inl pC)), (b23, .inl (g.2.1 1, 480, .inl pH)), (b24, .inl (g.2.1 1, 480, .inl pK)), (b25, .inl (g.2.1 1, 480, .inl pA)), (b26, .inl (g.2.1 1, 480, .inl pB))]) X hW 0 ciX12 rfl (K_X12_isPlan l g h0 (vs.set 0 (.int 0)) np x (sv_len hlen) (sv_ne (k := 0) (by decide) h27_)) vX12_247 [0] [1, 2, 3, 4, 5, 6, 7] rfl rfl rfl rfl rfl rfl hl.1 rfl (Nat.le_of_ble_eq_true rfl) ⟨Nat.le_of_ble_eq_true rfl, Nat.le_of_ble_eq_true rfl⟩ ⟨Nat.le_of_ble_eq_true rfl, Nat.le_of_ble_eq_true rfl⟩ dX12_call_7 (fun r1 u9 H locs hq hW => ?_)
  obtain ⟨rfl, rfl⟩ := hq
  have hW : WD g A s _ _ [(b6, .inl (g.2.1 1, 11, .inl rP)), (b21, .inl (g.2.1 1, 12, .inl pO)), (b22, .inl (g.2.1 1, 12, .inl pC)), (b23, .inl (g.2.1 1, 480, .inl pH)), (b24, .inl (g.2.1 1, 480, .inl pK)), (b25, .inl (g.2.1 1, 480, .inl pA)), (b26, .inl (g.2.1 1, 480, .inl pB)), (h0, .inr (12, (vs.set 0 (.int 0))))] := hW
  refine lv_if_eq (tgt := 55) (pc := 10) hx hb dX12_call_10 rfl (fun c2 => ?_) (fun c2 => ?_)
  · refine lv_iconst (v := (-1)) (pc := 55) hx hb dX12_call_55 (by decide) ?_
    have hF : F_X12_call np rP pO pC pH pK pA pB x ho ki on ot = ((-1 : Int32), pC, pH, pK, pA, pB) := show F_X12_call np rP pO pC pH pK pA pB x ho ki on ot = ((-1 : Int32), pC, pH, pK, pA, pB) from by rw [F_X12_call, if_pos c2]
    exact e_i (u := [(h0, .inr (12, (vs.set 0 (.int 0)))), (b6, .inl (g.2.1 1, 11, .inl rP)), (b21, .inl (g.2.1 1, 12, .inl pO)), (b22, .inl (g.2.1 1, 12, .inl pC)), (b23, .inl (g.2.1 1, 480, .inl pH)), (b24, .inl (g.2.1 1, 480, .inl pK)), (b25, .inl (g.2.1 1, 480, .inl pA)), (b26, .inl (g.2.1 1, 480, .inl pB))]) X hQ hr (hW) [7, 0, 1, 2, 3, 4, 5, 6] rfl rfl (⟨(congrArg Prod.fst hF).symm, by rw [hF]⟩) ⟨Nat.le_of_ble_eq_true rfl, Nat.le_of_ble_eq_true rfl⟩ dX12_call_56
  · have hpx := rp_at (n := np) (by omega) c2
    have hpx2 := hpx.2
    have hO := hpO (tN x) hpx2
    have hO2 := hO.2
    have hCc := hpC (tN x) hpx2
    have hC2 := hCc.2
    rw [hpx.1] at hl
    refine lv_aload_n (pc := 13) hx hb dX12_call_13 rfl (lv_at hl 0 rfl) ?_
    refine r_get X hW 7 ciX12 22 rfl (by decide) m_1253 rfl (sv_ne (k := 0) (by decide) h22_) dX12_call_14 ?_
    refine lv_iload_n (pc := 17) hx hb dX12_call_17 rfl (lv_at hl 1 rfl) ?_
    refine r_iald X hW 2 rfl (vp_in_nI (by omega) (by decide)) dX12_call_18 ?_
    refine lv_topi (fun v5 ev5 => ?_)
    obtain rfl : v5 = pC (tN x) := ev5.trans (by rw [nI_clamp (by omega)])
    rw [hCc.1]
    refine lv_bipush (v := 40) (pc := 19) hx hb dX12_call_19 (by decide) ?_
    refine lv_icmp_eq (tgt := 55) (pc := 21) hx hb dX12_call_21 rfl (fun c6 => ?_) (fun c6 => ?_)
    · have h7 : (tN (pC (tN x))) = 40 := (nI_eq (a := (tN (pC (tN x)))) (b := 40) (by omega) (by omega)).mp c6
      refine lv_iconst (v := (-1)) (pc := 55) hx hb dX12_call_55 (by decide) ?_
      have hF : F_X12_call np rP pO pC pH pK pA pB x ho ki on ot = ((-1 : Int32), pC, pH, pK, pA, pB) := show F_X12_call np rP pO pC pH pK pA pB x ho ki on ot = ((-1 : Int32), pC, pH, pK, pA, pB) from by rw [F_X12_call, if_neg c2, if_pos c6]
      exact e_i (u := [(h0, .inr (12, (vs.set 0 (.int 0)))), (b6, .inl (g.2.1 1, 11, .inl rP)), (b21, .inl (g.2.1 1, 12, .inl pO)), (b22, .inl (g.2.1 1, 12, .inl pC)), (b23, .inl (g.2.1 1, 480, .inl pH)), (b24, .inl (g.2.1 1, 480, .inl pK)), (b25, .inl (g.2.1 1, 480, .inl pA)), (b26, .inl (g.2.1 1, 480, .inl pB))]) X hQ hr (hW) [7, 0, 1, 2, 3, 4, 5, 6] rfl rfl (⟨(congrArg Prod.fst hF).symm, by rw [hF]⟩) ⟨Nat.le_of_ble_eq_true rfl, Nat.le_of_ble_eq_true rfl⟩ dX12_call_56
    · have h8 : ¬ ((tN (pC (tN x))) = 40) := fun q => c6 ((nI_eq (a := (tN (pC (tN x)))) (b := 40) (by omega) (by omega)).mpr q)
      have hne40 : ¬ tN (pC (tN x)) = 40 := fun q => c6 (congrArg nI q)
      refine lv_iload_n (pc := 24) hx hb dX12_call_24 rfl (lv_at hl 2 rfl) ?_
      refine c_Si (pc := 25) (As := [.int ho]) (rest := []) (wr := [(b6, .inl (g.2.1 1, 11, .inl rP)), (b21, .inl (g.2.1 1, 12, .inl pO)), (b22, .inl (g.2.1 1, 12, .inl pC)), (b23, .inl (g.2.1 1, 480, .inl pH)), (b24, .inl (g.2.1 1, 480, .inl pK)), (b25, .inl (g.2.1 1, 480, .inl pA)), (b26, .inl (g.2.1 1, 480, .inl pB)), (h0, .inr (12, (vs.set 0 (.int 0))))]) X hW (K_X12_isHour l g ho) vX12_228 [] [0, 1, 2, 3, 4, 5, 6, 7] rfl rfl rfl rfl rfl rfl hl.1 rfl (Nat.le_of_ble_eq_true rfl) ⟨Nat.le_of_ble_eq_true rfl, Nat.le_of_ble_eq_true rfl⟩ ⟨Nat.le_of_ble_eq_true rfl, Nat.le_of_ble_eq_true rfl⟩ dX12_call_25 (fun r9 u9 H locs hq hW => ?_)
      obtain ⟨rfl, rfl⟩ := hq
      have hW : WD g A s _ _ [(b6, .inl (g.2.1 1, 11, .inl rP)), (b21, .inl (g.2.1 1, 12, .inl pO)), (b22, .inl (g.2.1 1, 12, .inl pC)), (b23, .inl (g.2.1 1, 480, .inl pH)), (b24, .inl (g.2.1 1, 480, .inl pK)), (b25, .inl (g.2.1 1, 480, .inl pA)), (b26, .inl (g.2.1 1, 480, .inl pB)), (h0, .inr (12, (vs.set 0 (.int 0))))] := hW
      refine lv_if_eq (tgt := 55) (pc := 28) hx hb dX12_call_28 rfl (fun c10 => ?_) (fun c10 => ?_)
      · refine lv_iconst (v := (-1)) (pc := 55) hx hb dX12_call_55 (by decide) ?_
        have hF : F_X12_call np rP pO pC pH pK pA pB x ho ki on ot = ((-1 : Int32), pC, pH, pK, pA, pB) := show F_X12_call np rP pO pC pH pK pA pB x ho ki on ot = ((-1 : Int32), pC, pH, pK, pA, pB) from by rw [F_X12_call, if_neg c2, if_neg c6, if_pos c10]
        exact e_i (u := [(h0, .inr (12, (vs.set 0 (.int 0)))), (b6, .inl (g.2.1 1, 11, .inl rP)), (b21, .inl (g.2.1 1, 12, .inl pO)), (b22, .inl (g.2.1 1, 12, .inl pC)), (b23, .inl (g.2.1 1, 480, .inl pH)), (b24, .inl (g.2.1 1, 480, .inl pK)), (b25, .inl (g.2.1 1, 480, .inl pA)), (b26, .inl (g.2.1 1, 480, .inl pB))]) X hQ hr (hW) [7, 0, 1, 2, 3, 4, 5, 6] rfl rfl (⟨(congrArg Prod.fst hF).symm, by rw [hF]⟩) ⟨Nat.le_of_ble_eq_true rfl, Nat.le_of_ble_eq_true rfl⟩ dX12_call_56
      · refine lv_iload_n (pc := 31) hx hb dX12_call_31 rfl (lv_at hl 3 rfl) ?_
        refine lv_iconst (v := 0) (pc := 32) hx hb dX12_call_32 (by decide) ?_
        refine lv_iconst (v := 4) (pc := 33) hx hb dX12_call_33 (by decide) ?_
        refine c_Si (pc := 34) (As := [.int ki, .int 0, .int 4]) (rest := []) (wr := [(b6, .inl (g.2.1 1, 11, .inl rP)), (b21, .inl (g.2.1 1, 12, .inl pO)), (b22, .inl (g.2.1 1, 12, .inl pC)), (b23, .inl (g.2.1 1, 480, .inl pH)), (b24, .inl (g.2.1 1, 480, .inl pK)), (b25, .inl (g.2.1 1, 480, .inl pA)), (b26, .inl (g.2.1 1, 480, .inl pB)), (h0, .inr (12, (vs.set 0 (.int 0))))]) X hW (K_X12_isIn l g ki (0 : Int32) (4 : Int32)) vX12_198 [] [0, 1, 2, 3, 4, 5, 6, 7] rfl rfl rfl rfl rfl rfl hl.1 rfl (Nat.le_of_ble_eq_true rfl) ⟨Nat.le_of_ble_eq_true rfl, Nat.le_of_ble_eq_true rfl⟩ ⟨Nat.le_of_ble_eq_true rfl, Nat.le_of_ble_eq_true rfl⟩ dX12_call_34 (fun r13 u9 H locs hq hW => ?_)
        obtain ⟨rfl, rfl⟩ := hq
        have hW : WD g A s _ _ [(b6, .inl (g.2.1 1, 11, .inl rP)), (b21, .inl (g.2.1 1, 12, .inl pO)), (b22, .inl (g.2.1 1, 12, .inl pC)), (b23, .inl (g.2.1 1, 480, .inl pH)), (b24, .inl (g.2.1 1, 480, .inl pK)), (b25, .inl (g.2.1 1, 480, .inl pA)), (b26, .inl (g.2.1 1, 480, .inl pB)), (h0, .inr (12, (vs.set 0 (.int 0))))] := hW
        refine lv_if_eq (tgt := 55) (pc := 37) hx hb dX12_call_37 rfl (fun c14 => ?_) (fun c14 => ?_)
        · refine lv_iconst (v := (-1)) (pc := 55) hx hb dX12_call_55 (by decide) ?_
          have hF : F_X12_call np rP pO pC pH pK pA pB x ho ki on ot = ((-1 : Int32), pC, pH, pK, pA, pB) := show F_X12_call np rP pO pC pH pK pA pB x ho ki on ot = ((-1 : Int32), pC, pH, pK, pA, pB) from by rw [F_X12_call, if_neg c2, if_neg c6, if_neg c10, if_pos c14]
          exact e_i (u := [(h0, .inr (12, (vs.set 0 (.int 0)))), (b6, .inl (g.2.1 1, 11, .inl rP)), (b21, .inl (g.2.1 1, 12, .inl pO)), (b22, .inl (g.2.1 1, 12, .inl pC)), (b23, .inl (g.2.1 1, 480, .inl pH)), (b24, .inl (g.2.1 1, 480, .inl pK)), (b25, .inl (g.2.1 1, 480, .inl pA)), (b26, .inl (g.2.1 1, 480, .inl pB))]) X hQ hr (hW) [7, 0, 1, 2, 3, 4, 5, 6] rfl rfl (⟨(congrArg Prod.fst hF).symm, by rw [hF]⟩) ⟨Nat.le_of_ble_eq_true rfl, Nat.le_of_ble_eq_true rfl⟩ dX12_call_56
        · refine lv_aload_n (pc := 40) hx hb dX12_call_40 rfl (lv_at hl 0 rfl) ?_
          refine lv_aload_n (pc := 41) hx hb dX12_call_41 rfl (lv_at hl 0 rfl) ?_
          refine r_get X hW 7 ciX12 21 rfl (by decide) m_1252 rfl (sv_ne (k := 0) (by decide) h21_) dX12_call_42 ?_
          refine lv_iload_n (pc := 45) hx hb dX12_call_45 rfl (lv_at hl 1 rfl) ?_
          refine r_iald X hW 1 rfl (vp_in_nI (by omega) (by decide)) dX12_call_46 ?_
          refine lv_topi (fun v17 ev17 => ?_)
          obtain rfl : v17 = pO (tN x) := ev17.trans (by rw [nI_clamp (by omega)])
          rw [hO.1]
          refine lv_iload (pc := 47) hx hb dX12_call_47 (lv_at hl 4 rfl) ?_
          refine c_Vi (pc := 49) (As := [.int (nI (tN (pO (tN x)))), .int on]) (rest := []) (wr := [(b21, .inl (g.2.1 1, 12, .inl pO)), (b22, .inl (g.2.1 1, 12, .inl pC)), (b23, .inl (g.2.1 1, 480, .inl pH)), (b24, .inl (g.2.1 1, 480, .inl pK)), (b25, .inl (g.2.1 1, 480, .inl pA)), (b26, .inl (g.2.1 1, 480, .inl pB))]) X hW 7 ciX12 rfl (K_X12_isPerson l g h0 (vs.set 0 (.int 0)) b6 rP (tN (pO (tN x))) on (sv_len hlen) (sv_ne (k := 0) (by decide) h6_) (by omega)) vX12_237 [7, 0] [1, 2, 3, 4, 5, 6] rfl rfl rfl rfl rfl rfl hl.1 rfl (Nat.le_of_ble_eq_true rfl) ⟨Nat.le_of_ble_eq_true rfl, Nat.le_of_ble_eq_true rfl⟩ ⟨Nat.le_of_ble_eq_true rfl, Nat.le_of_ble_eq_true rfl⟩ dX12_call_49 (fun r18 u9 H locs hq hW => ?_)
          obtain ⟨rfl, rfl⟩ := hq
          have hW : WD g A s _ _ [(b21, .inl (g.2.1 1, 12, .inl pO)), (b22, .inl (g.2.1 1, 12, .inl pC)), (b23, .inl (g.2.1 1, 480, .inl pH)), (b24, .inl (g.2.1 1, 480, .inl pK)), (b25, .inl (g.2.1 1, 480, .inl pA)), (b26, .inl (g.2.1 1, 480, .inl pB)), (h0, .inr (12, (vs.set 0 (.int 0)))), (b6, .inl (g.2.1 1, 11, .inl rP))] := hW
          refine lv_if_ne (tgt := 57) (pc := 52) hx hb dX12_call_52 rfl (fun c19 => ?_) (fun c19 => ?_)
          · refine lv_iload_n (pc := 57) hx hb dX12_call_57 rfl (lv_at hl 3 rfl) ?_
            refine lv_iconst (v := 3) (pc := 58) hx hb dX12_call_58 (by decide) ?_
            refine lv_icmp_eq (tgt := 86) (pc := 59) hx hb dX12_call_59 rfl (fun c21 => ?_) (fun c21 => ?_)
            · refine lv_bipush (v := 40) (pc := 86) hx hb dX12_call_86 (by decide) ?_
              refine lv_iload_n (pc := 88) hx hb dX12_call_88 rfl (lv_at hl 1 rfl) ?_
              refine lv_imul (pc := 89) hx hb dX12_call_89 ?_
              refine lv_topi (fun v23 ev23 => ?_)
              obtain rfl : v23 = nI (40 * (tN x)) := ev23.trans (pk_mul 40 (tN x))
              refine lv_aload_n (pc := 90) hx hb dX12_call_90 rfl (lv_at hl 0 rfl) ?_
              refine r_get X hW 6 ciX12 22 rfl (by decide) m_1253 rfl (sv_ne (k := 0) (by decide) h22_) dX12_call_91 ?_
              refine lv_iload_n (pc := 94) hx hb dX12_call_94 rfl (lv_at hl 1 rfl) ?_
              refine r_iald X hW 1 rfl (vp_in_nI (by omega) (by decide)) dX12_call_95 ?_
              refine lv_topi (fun v24 ev24 => ?_)
              obtain rfl : v24 = pC (tN x) := ev24.trans (by rw [nI_clamp (by omega)])
              rw [hCc.1]
              refine lv_iadd (pc := 96) hx hb dX12_call_96 ?_
              refine lv_topi (fun v25 ev25 => ?_)
              obtain rfl : v25 = nI (40 * (tN x) + tN (pC (tN x))) := ev25.trans (nI_add _ _)
              refine lv_istore (lv' := [(6, .int (nI (40 * (tN x) + tN (pC (tN x))))), (0, .ref h0), (1, .int (nI (tN x))), (2, .int ho), (3, .int ki), (4, .int on), (5, .int ot)]) (pc := 97) hx hb dX12_call_97 hl (by decide) rfl (fun ls hl => ?_)
              refine lv_aload_n (pc := 99) hx hb dX12_call_99 rfl (lv_at hl 1 rfl) ?_
              refine r_get X hW 6 ciX12 23 rfl (by decide) m_1254 rfl (sv_ne (k := 0) (by decide) h23_) dX12_call_100 ?_
              refine lv_iload (pc := 103) hx hb dX12_call_103 (lv_at hl 0 rfl) ?_
              refine lv_iload_n (pc := 105) hx hb dX12_call_105 rfl (lv_at hl 3 rfl) ?_
              refine r_iast (ws' := [(b21, .inl (g.2.1 1, 12, .inl pO)), (b22, .inl (g.2.1 1, 12, .inl pC)), (b23, .inl (g.2.1 1, 480, .inl (upd pH (40 * (tN x) + tN (pC (tN x))) ho))), (b24, .inl (g.2.1 1, 480, .inl pK)), (b25, .inl (g.2.1 1, 480, .inl pA)), (b26, .inl (g.2.1 1, 480, .inl pB)), (h0, .inr (12, (vs.set 0 (.int 0)))), (b6, .inl (g.2.1 1, 11, .inl rP))]) X hW 2 rfl (vp_in_nI (by omega) (by decide)) (f' := (upd pH (40 * (tN x) + tN (pC (tN x))) ho)) (by rw [nI_clamp (by omega)]) rfl dX12_call_106 (fun H locs hW => ?_)
              refine lv_aload_n (pc := 107) hx hb dX12_call_107 rfl (lv_at hl 1 rfl) ?_
              refine r_get X hW 6 ciX12 24 rfl (by decide) m_1255 rfl (sv_ne (k := 0) (by decide) h24_) dX12_call_108 ?_
              refine lv_iload (pc := 111) hx hb dX12_call_111 (lv_at hl 0 rfl) ?_
              refine lv_iload_n (pc := 113) hx hb dX12_call_113 rfl (lv_at hl 4 rfl) ?_
              refine r_iast (ws' := [(b21, .inl (g.2.1 1, 12, .inl pO)), (b22, .inl (g.2.1 1, 12, .inl pC)), (b23, .inl (g.2.1 1, 480, .inl (upd pH (40 * (tN x) + tN (pC (tN x))) ho))), (b24, .inl (g.2.1 1, 480, .inl (upd pK (40 * (tN x) + tN (pC (tN x))) ki))), (b25, .inl (g.2.1 1, 480, .inl pA)), (b26, .inl (g.2.1 1, 480, .inl pB)), (h0, .inr (12, (vs.set 0 (.int 0)))), (b6, .inl (g.2.1 1, 11, .inl rP))]) X hW 3 rfl (vp_in_nI (by omega) (by decide)) (f' := (upd pK (40 * (tN x) + tN (pC (tN x))) ki)) (by rw [nI_clamp (by omega)]) rfl dX12_call_114 (fun H locs hW => ?_)
              refine lv_aload_n (pc := 115) hx hb dX12_call_115 rfl (lv_at hl 1 rfl) ?_
              refine r_get X hW 6 ciX12 25 rfl (by decide) m_1256 rfl (sv_ne (k := 0) (by decide) h25_) dX12_call_116 ?_
              refine lv_iload (pc := 119) hx hb dX12_call_119 (lv_at hl 0 rfl) ?_
              refine lv_iload (pc := 121) hx hb dX12_call_121 (lv_at hl 5 rfl) ?_
              refine r_iast (ws' := [(b21, .inl (g.2.1 1, 12, .inl pO)), (b22, .inl (g.2.1 1, 12, .inl pC)), (b23, .inl (g.2.1 1, 480, .inl (upd pH (40 * (tN x) + tN (pC (tN x))) ho))), (b24, .inl (g.2.1 1, 480, .inl (upd pK (40 * (tN x) + tN (pC (tN x))) ki))), (b25, .inl (g.2.1 1, 480, .inl (upd pA (40 * (tN x) + tN (pC (tN x))) on))), (b26, .inl (g.2.1 1, 480, .inl pB)), (h0, .inr (12, (vs.set 0 (.int 0)))), (b6, .inl (g.2.1 1, 11, .inl rP))]) X hW 4 rfl (vp_in_nI (by omega) (by decide)) (f' := (upd pA (40 * (tN x) + tN (pC (tN x))) on)) (by rw [nI_clamp (by omega)]) rfl dX12_call_123 (fun H locs hW => ?_)
              refine lv_aload_n (pc := 124) hx hb dX12_call_124 rfl (lv_at hl 1 rfl) ?_
              refine r_get X hW 6 ciX12 26 rfl (by decide) m_1257 rfl (sv_ne (k := 0) (by decide) h26_) dX12_call_125 ?_
              refine lv_iload (pc := 128) hx hb dX12_call_128 (lv_at hl 0 rfl) ?_
              refine lv_iload (pc := 130) hx hb dX12_call_130 (lv_at hl 6 rfl) ?_
              refine r_iast (ws' := [(b21, .inl (g.2.1 1, 12, .inl pO)), (b22, .inl (g.2.1 1, 12, .inl pC)), (b23, .inl (g.2.1 1, 480, .inl (upd pH (40 * (tN x) + tN (pC (tN x))) ho))), (b24, .inl (g.2.1 1, 480, .inl (upd pK (40 * (tN x) + tN (pC (tN x))) ki))), (b25, .inl (g.2.1 1, 480, .inl (upd pA (40 * (tN x) + tN (pC (tN x))) on))), (b26, .inl (g.2.1 1, 480, .inl (upd pB (40 * (tN x) + tN (pC (tN x))) ot))), (h0, .inr (12, (vs.set 0 (.int 0)))), (b6, .inl (g.2.1 1, 11, .inl rP))]) X hW 5 rfl (vp_in_nI (by omega) (by decide)) (f' := (upd pB (40 * (tN x) + tN (pC (tN x))) ot)) (by rw [nI_clamp (by omega)]) rfl dX12_call_132 (fun H locs hW => ?_)
              refine lv_aload_n (pc := 133) hx hb dX12_call_133 rfl (lv_at hl 1 rfl) ?_
              refine r_get X hW 6 ciX12 22 rfl (by decide) m_1253 rfl (sv_ne (k := 0) (by decide) h22_) dX12_call_134 ?_
              refine lv_iload_n (pc := 137) hx hb dX12_call_137 rfl (lv_at hl 2 rfl) ?_
              refine lv_dup2_11 (pc := 138) hx hb dX12_call_138 rfl rfl ?_
              refine r_iald X hW 1 rfl (vp_in_nI (by omega) (by decide)) dX12_call_139 ?_
              refine lv_topi (fun v26 ev26 => ?_)
              obtain rfl : v26 = pC (tN x) := ev26.trans (by rw [nI_clamp (by omega)])
              refine lv_iconst (v := 1) (pc := 140) hx hb dX12_call_140 (by decide) ?_
              refine lv_iadd (pc := 141) hx hb dX12_call_141 ?_
              refine r_iast (ws' := [(b21, .inl (g.2.1 1, 12, .inl pO)), (b22, .inl (g.2.1 1, 12, .inl (upd pC (tN x) ((pC (tN x)) + (1 : Int32))))), (b23, .inl (g.2.1 1, 480, .inl (upd pH (40 * (tN x) + tN (pC (tN x))) ho))), (b24, .inl (g.2.1 1, 480, .inl (upd pK (40 * (tN x) + tN (pC (tN x))) ki))), (b25, .inl (g.2.1 1, 480, .inl (upd pA (40 * (tN x) + tN (pC (tN x))) on))), (b26, .inl (g.2.1 1, 480, .inl (upd pB (40 * (tN x) + tN (pC (tN x))) ot))), (h0, .inr (12, (vs.set 0 (.int 0)))), (b6, .inl (g.2.1 1, 11, .inl rP))]) X hW 1 rfl (vp_in_nI (by omega) (by decide)) (f' := (upd pC (tN x) ((pC (tN x)) + (1 : Int32)))) (by rw [nI_clamp (by omega)]) rfl dX12_call_142 (fun H locs hW => ?_)
              refine lv_aload_n (pc := 143) hx hb dX12_call_143 rfl (lv_at hl 1 rfl) ?_
              refine r_get X hW 6 ciX12 22 rfl (by decide) m_1253 rfl (sv_ne (k := 0) (by decide) h22_) dX12_call_144 ?_
              refine lv_iload_n (pc := 147) hx hb dX12_call_147 rfl (lv_at hl 2 rfl) ?_
              refine r_iald X hW 1 rfl (vp_in_nI (by omega) (by decide)) dX12_call_148 ?_
              refine lv_topi (fun v27 ev27 => ?_)
              obtain rfl : v27 = (upd pC (tN x) ((pC (tN x)) + (1 : Int32))) (tN x) := ev27.trans (by rw [nI_clamp (by omega)])
              refine lv_iconst (v := 1) (pc := 149) hx hb dX12_call_149 (by decide) ?_
              refine lv_isub (pc := 150) hx hb dX12_call_150 ?_
              have hF : F_X12_call np rP pO pC pH pK pA pB x ho ki on ot = (((upd pC (tN x) ((pC (tN x)) + (1 : Int32))) (tN x)) - (1 : Int32), (upd pC (tN x) ((pC (tN x)) + (1 : Int32))), (upd pH (40 * (tN x) + tN (pC (tN x))) ho), (upd pK (40 * (tN x) + tN (pC (tN x))) ki), (upd pA (40 * (tN x) + tN (pC (tN x))) on), (upd pB (40 * (tN x) + tN (pC (tN x))) ot)) := show F_X12_call np rP pO pC pH pK pA pB x ho ki on ot = (((upd pC (tN x) ((pC (tN x)) + (1 : Int32))) (tN x)) - (1 : Int32), (upd pC (tN x) ((pC (tN x)) + (1 : Int32))), (upd pH (40 * (tN x) + tN (pC (tN x))) ho), (upd pK (40 * (tN x) + tN (pC (tN x))) ki), (upd pA (40 * (tN x) + tN (pC (tN x))) on), (upd pB (40 * (tN x) + tN (pC (tN x))) ot)) from by rw [F_X12_call, if_neg c2, if_neg c6, if_neg c10, if_neg c14, if_neg c19, if_pos c21]
              exact e_i (u := [(h0, .inr (12, (vs.set 0 (.int 0)))), (b6, .inl (g.2.1 1, 11, .inl rP)), (b21, .inl (g.2.1 1, 12, .inl pO)), (b22, .inl (g.2.1 1, 12, .inl (upd pC (tN x) ((pC (tN x)) + (1 : Int32))))), (b23, .inl (g.2.1 1, 480, .inl (upd pH (40 * (tN x) + tN (pC (tN x))) ho))), (b24, .inl (g.2.1 1, 480, .inl (upd pK (40 * (tN x) + tN (pC (tN x))) ki))), (b25, .inl (g.2.1 1, 480, .inl (upd pA (40 * (tN x) + tN (pC (tN x))) on))), (b26, .inl (g.2.1 1, 480, .inl (upd pB (40 * (tN x) + tN (pC (tN x))) ot)))]) X hQ hr (hW) [6, 7, 0, 1, 2, 3, 4, 5] rfl rfl (⟨(congrArg Prod.fst hF).symm, by rw [hF]⟩) ⟨Nat.le_of_ble_eq_true rfl, Nat.le_of_ble_eq_true rfl⟩ dX12_call_151
            · refine lv_aload_n (pc := 62) hx hb dX12_call_62 rfl (lv_at hl 0 rfl) ?_
              refine lv_aload_n (pc := 63) hx hb dX12_call_63 rfl (lv_at hl 0 rfl) ?_
              refine r_get X hW 6 ciX12 21 rfl (by decide) m_1252 rfl (sv_ne (k := 0) (by decide) h21_) dX12_call_64 ?_
              refine lv_iload_n (pc := 67) hx hb dX12_call_67 rfl (lv_at hl 1 rfl) ?_
              refine r_iald X hW 0 rfl (vp_in_nI (by omega) (by decide)) dX12_call_68 ?_
              refine lv_topi (fun v29 ev29 => ?_)
              obtain rfl : v29 = pO (tN x) := ev29.trans (by rw [nI_clamp (by omega)])
              rw [hO.1]
              refine lv_iload (pc := 69) hx hb dX12_call_69 (lv_at hl 5 rfl) ?_
              refine c_Vi (pc := 71) (As := [.int (nI (tN (pO (tN x)))), .int ot]) (rest := []) (wr := [(b21, .inl (g.2.1 1, 12, .inl pO)), (b22, .inl (g.2.1 1, 12, .inl pC)), (b23, .inl (g.2.1 1, 480, .inl pH)), (b24, .inl (g.2.1 1, 480, .inl pK)), (b25, .inl (g.2.1 1, 480, .inl pA)), (b26, .inl (g.2.1 1, 480, .inl pB))]) X hW 6 ciX12 rfl (K_X12_isPerson l g h0 (vs.set 0 (.int 0)) b6 rP (tN (pO (tN x))) ot (sv_len hlen) (sv_ne (k := 0) (by decide) h6_) (by omega)) vX12_237 [6, 7] [0, 1, 2, 3, 4, 5] rfl rfl rfl rfl rfl rfl hl.1 rfl (Nat.le_of_ble_eq_true rfl) ⟨Nat.le_of_ble_eq_true rfl, Nat.le_of_ble_eq_true rfl⟩ ⟨Nat.le_of_ble_eq_true rfl, Nat.le_of_ble_eq_true rfl⟩ dX12_call_71 (fun r30 u9 H locs hq hW => ?_)
              obtain ⟨rfl, rfl⟩ := hq
              have hW : WD g A s _ _ [(b21, .inl (g.2.1 1, 12, .inl pO)), (b22, .inl (g.2.1 1, 12, .inl pC)), (b23, .inl (g.2.1 1, 480, .inl pH)), (b24, .inl (g.2.1 1, 480, .inl pK)), (b25, .inl (g.2.1 1, 480, .inl pA)), (b26, .inl (g.2.1 1, 480, .inl pB)), (h0, .inr (12, (vs.set 0 (.int 0)))), (b6, .inl (g.2.1 1, 11, .inl rP))] := hW
              refine lv_if_eq (tgt := 84) (pc := 74) hx hb dX12_call_74 rfl (fun c31 => ?_) (fun c31 => ?_)
              · refine lv_iconst (v := (-1)) (pc := 84) hx hb dX12_call_84 (by decide) ?_
                have hF : F_X12_call np rP pO pC pH pK pA pB x ho ki on ot = ((-1 : Int32), pC, pH, pK, pA, pB) := show F_X12_call np rP pO pC pH pK pA pB x ho ki on ot = ((-1 : Int32), pC, pH, pK, pA, pB) from by rw [F_X12_call, if_neg c2, if_neg c6, if_neg c10, if_neg c14, if_neg c19, if_neg c21, if_pos c31]
                exact e_i (u := [(h0, .inr (12, (vs.set 0 (.int 0)))), (b6, .inl (g.2.1 1, 11, .inl rP)), (b21, .inl (g.2.1 1, 12, .inl pO)), (b22, .inl (g.2.1 1, 12, .inl pC)), (b23, .inl (g.2.1 1, 480, .inl pH)), (b24, .inl (g.2.1 1, 480, .inl pK)), (b25, .inl (g.2.1 1, 480, .inl pA)), (b26, .inl (g.2.1 1, 480, .inl pB))]) X hQ hr (hW) [6, 7, 0, 1, 2, 3, 4, 5] rfl rfl (⟨(congrArg Prod.fst hF).symm, by rw [hF]⟩) ⟨Nat.le_of_ble_eq_true rfl, Nat.le_of_ble_eq_true rfl⟩ dX12_call_85
              · refine lv_iload (pc := 77) hx hb dX12_call_77 (lv_at hl 4 rfl) ?_
                refine lv_iload (pc := 79) hx hb dX12_call_79 (lv_at hl 5 rfl) ?_
                refine lv_icmp_ne (tgt := 86) (pc := 81) hx hb dX12_call_81 rfl (fun c34 => ?_) (fun c34 => ?_)
                · refine lv_bipush (v := 40) (pc := 86) hx hb dX12_call_86 (by decide) ?_
                  refine lv_iload_n (pc := 88) hx hb dX12_call_88 rfl (lv_at hl 1 rfl) ?_
                  refine lv_imul (pc := 89) hx hb dX12_call_89 ?_
                  refine lv_topi (fun v36 ev36 => ?_)
                  obtain rfl : v36 = nI (40 * (tN x)) := ev36.trans (pk_mul 40 (tN x))
                  refine lv_aload_n (pc := 90) hx hb dX12_call_90 rfl (lv_at hl 0 rfl) ?_
                  refine r_get X hW 6 ciX12 22 rfl (by decide) m_1253 rfl (sv_ne (k := 0) (by decide) h22_) dX12_call_91 ?_
                  refine lv_iload_n (pc := 94) hx hb dX12_call_94 rfl (lv_at hl 1 rfl) ?_
                  refine r_iald X hW 1 rfl (vp_in_nI (by omega) (by decide)) dX12_call_95 ?_
                  refine lv_topi (fun v37 ev37 => ?_)
                  obtain rfl : v37 = pC (tN x) := ev37.trans (by rw [nI_clamp (by omega)])
                  rw [hCc.1]
                  refine lv_iadd (pc := 96) hx hb dX12_call_96 ?_
                  refine lv_topi (fun v38 ev38 => ?_)
                  obtain rfl : v38 = nI (40 * (tN x) + tN (pC (tN x))) := ev38.trans (nI_add _ _)
                  refine lv_istore (lv' := [(6, .int (nI (40 * (tN x) + tN (pC (tN x))))), (0, .ref h0), (1, .int (nI (tN x))), (2, .int ho), (3, .int ki), (4, .int on), (5, .int ot)]) (pc := 97) hx hb dX12_call_97 hl (by decide) rfl (fun ls hl => ?_)
                  refine lv_aload_n (pc := 99) hx hb dX12_call_99 rfl (lv_at hl 1 rfl) ?_
                  refine r_get X hW 6 ciX12 23 rfl (by decide) m_1254 rfl (sv_ne (k := 0) (by decide) h23_) dX12_call_100 ?_
                  refine lv_iload (pc := 103) hx hb dX12_call_103 (lv_at hl 0 rfl) ?_
                  refine lv_iload_n (pc := 105) hx hb dX12_call_105 rfl (lv_at hl 3 rfl) ?_
                  refine r_iast (ws' := [(b21, .inl (g.2.1 1, 12, .inl pO)), (b22, .inl (g.2.1 1, 12, .inl pC)), (b23, .inl (g.2.1 1, 480, .inl (upd pH (40 * (tN x) + tN (pC (tN x))) ho))), (b24, .inl (g.2.1 1, 480, .inl pK)), (b25, .inl (g.2.1 1, 480, .inl pA)), (b26, .inl (g.2.1 1, 480, .inl pB)), (h0, .inr (12, (vs.set 0 (.int 0)))), (b6, .inl (g.2.1 1, 11, .inl rP))]) X hW 2 rfl (vp_in_nI (by omega) (by decide)) (f' := (upd pH (40 * (tN x) + tN (pC (tN x))) ho)) (by rw [nI_clamp (by omega)]) rfl dX12_call_106 (fun H locs hW => ?_)
                  refine lv_aload_n (pc := 107) hx hb dX12_call_107 rfl (lv_at hl 1 rfl) ?_
                  refine r_get X hW 6 ciX12 24 rfl (by decide) m_1255 rfl (sv_ne (k := 0) (by decide) h24_) dX12_call_108 ?_
                  refine lv_iload (pc := 111) hx hb dX12_call_111 (lv_at hl 0 rfl) ?_
                  refine lv_iload_n (pc := 113) hx hb dX12_call_113 rfl (lv_at hl 4 rfl) ?_
                  refine r_iast (ws' := [(b21, .inl (g.2.1 1, 12, .inl pO)), (b22, .inl (g.2.1 1, 12, .inl pC)), (b23, .inl (g.2.1 1, 480, .inl (upd pH (40 * (tN x) + tN (pC (tN x))) ho))), (b24, .inl (g.2.1 1, 480, .inl (upd pK (40 * (tN x) + tN (pC (tN x))) ki))), (b25, .inl (g.2.1 1, 480, .inl pA)), (b26, .inl (g.2.1 1, 480, .inl pB)), (h0, .inr (12, (vs.set 0 (.int 0)))), (b6, .inl (g.2.1 1, 11, .inl rP))]) X hW 3 rfl (vp_in_nI (by omega) (by decide)) (f' := (upd pK (40 * (tN x) + tN (pC (tN x))) ki)) (by rw [nI_clamp (by omega)]) rfl dX12_call_114 (fun H locs hW => ?_)
                  refine lv_aload_n (pc := 115) hx hb dX12_call_115 rfl (lv_at hl 1 rfl) ?_
                  refine r_get X hW 6 ciX12 25 rfl (by decide) m_1256 rfl (sv_ne (k := 0) (by decide) h25_) dX12_call_116 ?_
                  refine lv_iload (pc := 119) hx hb dX12_call_119 (lv_at hl 0 rfl) ?_
                  refine lv_iload (pc := 121) hx hb dX12_call_121 (lv_at hl 5 rfl) ?_
                  refine r_iast (ws' := [(b21, .inl (g.2.1 1, 12, .inl pO)), (b22, .inl (g.2.1 1, 12, .inl pC)), (b23, .inl (g.2.1 1, 480, .inl (upd pH (40 * (tN x) + tN (pC (tN x))) ho))), (b24, .inl (g.2.1 1, 480, .inl (upd pK (40 * (tN x) + tN (pC (tN x))) ki))), (b25, .inl (g.2.1 1, 480, .inl (upd pA (40 * (tN x) + tN (pC (tN x))) on))), (b26, .inl (g.2.1 1, 480, .inl pB)), (h0, .inr (12, (vs.set 0 (.int 0)))), (b6, .inl (g.2.1 1, 11, .inl rP))]) X hW 4 rfl (vp_in_nI (by omega) (by decide)) (f' := (upd pA (40 * (tN x) + tN (pC (tN x))) on)) (by rw [nI_clamp (by omega)]) rfl dX12_call_123 (fun H locs hW => ?_)
                  refine lv_aload_n (pc := 124) hx hb dX12_call_124 rfl (lv_at hl 1 rfl) ?_
                  refine r_get X hW 6 ciX12 26 rfl (by decide) m_1257 rfl (sv_ne (k := 0) (by decide) h26_) dX12_call_125 ?_
                  refine lv_iload (pc := 128) hx hb dX12_call_128 (lv_at hl 0 rfl) ?_
                  refine lv_iload (pc := 130) hx hb dX12_call_130 (lv_at hl 6 rfl) ?_
                  refine r_iast (ws' := [(b21, .inl (g.2.1 1, 12, .inl pO)), (b22, .inl (g.2.1 1, 12, .inl pC)), (b23, .inl (g.2.1 1, 480, .inl (upd pH (40 * (tN x) + tN (pC (tN x))) ho))), (b24, .inl (g.2.1 1, 480, .inl (upd pK (40 * (tN x) + tN (pC (tN x))) ki))), (b25, .inl (g.2.1 1, 480, .inl (upd pA (40 * (tN x) + tN (pC (tN x))) on))), (b26, .inl (g.2.1 1, 480, .inl (upd pB (40 * (tN x) + tN (pC (tN x))) ot))), (h0, .inr (12, (vs.set 0 (.int 0)))), (b6, .inl (g.2.1 1, 11, .inl rP))]) X hW 5 rfl (vp_in_nI (by omega) (by decide)) (f' := (upd pB (40 * (tN x) + tN (pC (tN x))) ot)) (by rw [nI_clamp (by omega)]) rfl dX12_call_132 (fun H locs hW => ?_)
                  refine lv_aload_n (pc := 133) hx hb dX12_call_133 rfl (lv_at hl 1 rfl) ?_
                  refine r_get X hW 6 ciX12 22 rfl (by decide) m_1253 rfl (sv_ne (k := 0) (by decide) h22_) dX12_call_134 ?_
                  refine lv_iload_n (pc := 137) hx hb dX12_call_137 rfl (lv_at hl 2 rfl) ?_
                  refine lv_dup2_11 (pc := 138) hx hb dX12_call_138 rfl rfl ?_
                  refine r_iald X hW 1 rfl (vp_in_nI (by omega) (by decide)) dX12_call_139 ?_
                  refine lv_topi (fun v39 ev39 => ?_)
                  obtain rfl : v39 = pC (tN x) := ev39.trans (by rw [nI_clamp (by omega)])
                  refine lv_iconst (v := 1) (pc := 140) hx hb dX12_call_140 (by decide) ?_
                  refine lv_iadd (pc := 141) hx hb dX12_call_141 ?_
                  refine r_iast (ws' := [(b21, .inl (g.2.1 1, 12, .inl pO)), (b22, .inl (g.2.1 1, 12, .inl (upd pC (tN x) ((pC (tN x)) + (1 : Int32))))), (b23, .inl (g.2.1 1, 480, .inl (upd pH (40 * (tN x) + tN (pC (tN x))) ho))), (b24, .inl (g.2.1 1, 480, .inl (upd pK (40 * (tN x) + tN (pC (tN x))) ki))), (b25, .inl (g.2.1 1, 480, .inl (upd pA (40 * (tN x) + tN (pC (tN x))) on))), (b26, .inl (g.2.1 1, 480, .inl (upd pB (40 * (tN x) + tN (pC (tN x))) ot))), (h0, .inr (12, (vs.set 0 (.int 0)))), (b6, .inl (g.2.1 1, 11, .inl rP))]) X hW 1 rfl (vp_in_nI (by omega) (by decide)) (f' := (upd pC (tN x) ((pC (tN x)) + (1 : Int32)))) (by rw [nI_clamp (by omega)]) rfl dX12_call_142 (fun H locs hW => ?_)
                  refine lv_aload_n (pc := 143) hx hb dX12_call_143 rfl (lv_at hl 1 rfl) ?_
                  refine r_get X hW 6 ciX12 22 rfl (by decide) m_1253 rfl (sv_ne (k := 0) (by decide) h22_) dX12_call_144 ?_
                  refine lv_iload_n (pc := 147) hx hb dX12_call_147 rfl (lv_at hl 2 rfl) ?_
                  refine r_iald X hW 1 rfl (vp_in_nI (by omega) (by decide)) dX12_call_148 ?_
                  refine lv_topi (fun v40 ev40 => ?_)
                  obtain rfl : v40 = (upd pC (tN x) ((pC (tN x)) + (1 : Int32))) (tN x) := ev40.trans (by rw [nI_clamp (by omega)])
                  refine lv_iconst (v := 1) (pc := 149) hx hb dX12_call_149 (by decide) ?_
                  refine lv_isub (pc := 150) hx hb dX12_call_150 ?_
                  have hF : F_X12_call np rP pO pC pH pK pA pB x ho ki on ot = (((upd pC (tN x) ((pC (tN x)) + (1 : Int32))) (tN x)) - (1 : Int32), (upd pC (tN x) ((pC (tN x)) + (1 : Int32))), (upd pH (40 * (tN x) + tN (pC (tN x))) ho), (upd pK (40 * (tN x) + tN (pC (tN x))) ki), (upd pA (40 * (tN x) + tN (pC (tN x))) on), (upd pB (40 * (tN x) + tN (pC (tN x))) ot)) := show F_X12_call np rP pO pC pH pK pA pB x ho ki on ot = (((upd pC (tN x) ((pC (tN x)) + (1 : Int32))) (tN x)) - (1 : Int32), (upd pC (tN x) ((pC (tN x)) + (1 : Int32))), (upd pH (40 * (tN x) + tN (pC (tN x))) ho), (upd pK (40 * (tN x) + tN (pC (tN x))) ki), (upd pA (40 * (tN x) + tN (pC (tN x))) on), (upd pB (40 * (tN x) + tN (pC (tN x))) ot)) from by rw [F_X12_call, if_neg c2, if_neg c6, if_neg c10, if_neg c14, if_neg c19, if_neg c21, if_neg c31, if_neg c34]
                  exact e_i (u := [(h0, .inr (12, (vs.set 0 (.int 0)))), (b6, .inl (g.2.1 1, 11, .inl rP)), (b21, .inl (g.2.1 1, 12, .inl pO)), (b22, .inl (g.2.1 1, 12, .inl (upd pC (tN x) ((pC (tN x)) + (1 : Int32))))), (b23, .inl (g.2.1 1, 480, .inl (upd pH (40 * (tN x) + tN (pC (tN x))) ho))), (b24, .inl (g.2.1 1, 480, .inl (upd pK (40 * (tN x) + tN (pC (tN x))) ki))), (b25, .inl (g.2.1 1, 480, .inl (upd pA (40 * (tN x) + tN (pC (tN x))) on))), (b26, .inl (g.2.1 1, 480, .inl (upd pB (40 * (tN x) + tN (pC (tN x))) ot)))]) X hQ hr (hW) [6, 7, 0, 1, 2, 3, 4, 5] rfl rfl (⟨(congrArg Prod.fst hF).symm, by rw [hF]⟩) ⟨Nat.le_of_ble_eq_true rfl, Nat.le_of_ble_eq_true rfl⟩ dX12_call_151
                · refine lv_iconst (v := (-1)) (pc := 84) hx hb dX12_call_84 (by decide) ?_
                  have hF : F_X12_call np rP pO pC pH pK pA pB x ho ki on ot = ((-1 : Int32), pC, pH, pK, pA, pB) := show F_X12_call np rP pO pC pH pK pA pB x ho ki on ot = ((-1 : Int32), pC, pH, pK, pA, pB) from by rw [F_X12_call, if_neg c2, if_neg c6, if_neg c10, if_neg c14, if_neg c19, if_neg c21, if_neg c31, if_pos c34]
                  exact e_i (u := [(h0, .inr (12, (vs.set 0 (.int 0)))), (b6, .inl (g.2.1 1, 11, .inl rP)), (b21, .inl (g.2.1 1, 12, .inl pO)), (b22, .inl (g.2.1 1, 12, .inl pC)), (b23, .inl (g.2.1 1, 480, .inl pH)), (b24, .inl (g.2.1 1, 480, .inl pK)), (b25, .inl (g.2.1 1, 480, .inl pA)), (b26, .inl (g.2.1 1, 480, .inl pB))]) X hQ hr (hW) [6, 7, 0, 1, 2, 3, 4, 5] rfl rfl (⟨(congrArg Prod.fst hF).symm, by rw [hF]⟩) ⟨Nat.le_of_ble_eq_true rfl, Nat.le_of_ble_eq_true rfl⟩ dX12_call_85
          · refine lv_iconst (v := (-1)) (pc := 55) hx hb dX12_call_55 (by decide) ?_
            have hF : F_X12_call np rP pO pC pH pK pA pB x ho ki on ot = ((-1 : Int32), pC, pH, pK, pA, pB) := show F_X12_call np rP pO pC pH pK pA pB x ho ki on ot = ((-1 : Int32), pC, pH, pK, pA, pB) from by rw [F_X12_call, if_neg c2, if_neg c6, if_neg c10, if_neg c14, if_pos c19]
            exact e_i (u := [(h0, .inr (12, (vs.set 0 (.int 0)))), (b6, .inl (g.2.1 1, 11, .inl rP)), (b21, .inl (g.2.1 1, 12, .inl pO)), (b22, .inl (g.2.1 1, 12, .inl pC)), (b23, .inl (g.2.1 1, 480, .inl pH)), (b24, .inl (g.2.1 1, 480, .inl pK)), (b25, .inl (g.2.1 1, 480, .inl pA)), (b26, .inl (g.2.1 1, 480, .inl pB))]) X hQ hr (hW) [6, 7, 0, 1, 2, 3, 4, 5] rfl rfl (⟨(congrArg Prod.fst hF).symm, by rw [hF]⟩) ⟨Nat.le_of_ble_eq_true rfl, Nat.le_of_ble_eq_true rfl⟩ dX12_call_56

theorem dX10_taleOf_0 : decode cX10_taleOf 0 = .ok (.aload_n 0, 1) := DX10_taleOf _ _ _ rfl
theorem dX10_taleOf_1 : decode cX10_taleOf 1 = .ok (.getfield 42, 3) := DX10_taleOf _ _ _ rfl
theorem dX10_taleOf_4 : decode cX10_taleOf 4 = .ok (.iload_n 1, 1) := DX10_taleOf _ _ _ rfl
theorem dX10_taleOf_5 : decode cX10_taleOf 5 = .ok (.bipush 7, 2) := DX10_taleOf _ _ _ rfl
theorem dX10_taleOf_7 : decode cX10_taleOf 7 = .ok (.imul, 1) := DX10_taleOf _ _ _ rfl
theorem dX10_taleOf_8 : decode cX10_taleOf 8 = .ok (.iload_n 2, 1) := DX10_taleOf _ _ _ rfl
theorem dX10_taleOf_9 : decode cX10_taleOf 9 = .ok (.iadd, 1) := DX10_taleOf _ _ _ rfl
theorem dX10_taleOf_10 : decode cX10_taleOf 10 = .ok (.iaload, 1) := DX10_taleOf _ _ _ rfl
theorem dX10_taleOf_11 : decode cX10_taleOf 11 = .ok (.ireturn, 1) := DX10_taleOf _ _ _ rfl
theorem dX10_whoseTaleIs_0 : decode cX10_whoseTaleIs 0 = .ok (.iconst 0, 1) := DX10_whoseTaleIs _ _ _ rfl
theorem dX10_whoseTaleIs_1 : decode cX10_whoseTaleIs 1 = .ok (.istore_n 3, 1) := DX10_whoseTaleIs _ _ _ rfl
theorem dX10_whoseTaleIs_2 : decode cX10_whoseTaleIs 2 = .ok (.iconst 0, 1) := DX10_whoseTaleIs _ _ _ rfl
theorem dX10_whoseTaleIs_3 : decode cX10_whoseTaleIs 3 = .ok (.istore 4, 2) := DX10_whoseTaleIs _ _ _ rfl
theorem dX10_whoseTaleIs_5 : decode cX10_whoseTaleIs 5 = .ok (.iload 4, 2) := DX10_whoseTaleIs _ _ _ rfl
theorem dX10_whoseTaleIs_7 : decode cX10_whoseTaleIs 7 = .ok (.aload_n 0, 1) := DX10_whoseTaleIs _ _ _ rfl
theorem dX10_whoseTaleIs_8 : decode cX10_whoseTaleIs 8 = .ok (.getfield 54, 3) := DX10_whoseTaleIs _ _ _ rfl
theorem dX10_whoseTaleIs_11 : decode cX10_whoseTaleIs 11 = .ok (.if_icmp .ge 27, 3) := DX10_whoseTaleIs _ _ _ rfl
theorem dX10_whoseTaleIs_38 : decode cX10_whoseTaleIs 38 = .ok (.iload_n 3, 1) := DX10_whoseTaleIs _ _ _ rfl
theorem dX10_whoseTaleIs_39 : decode cX10_whoseTaleIs 39 = .ok (.ireturn, 1) := DX10_whoseTaleIs _ _ _ rfl
theorem dX10_whoseTaleIs_14 : decode cX10_whoseTaleIs 14 = .ok (.aload_n 0, 1) := DX10_whoseTaleIs _ _ _ rfl
theorem dX10_whoseTaleIs_15 : decode cX10_whoseTaleIs 15 = .ok (.iload_n 1, 1) := DX10_whoseTaleIs _ _ _ rfl
theorem dX10_whoseTaleIs_16 : decode cX10_whoseTaleIs 16 = .ok (.iload 4, 2) := DX10_whoseTaleIs _ _ _ rfl
theorem dX10_whoseTaleIs_18 : decode cX10_whoseTaleIs 18 = .ok (.invokevirtual 115, 3) := DX10_whoseTaleIs _ _ _ rfl
theorem dX10_whoseTaleIs_21 : decode cX10_whoseTaleIs 21 = .ok (.iload_n 2, 1) := DX10_whoseTaleIs _ _ _ rfl
theorem dX10_whoseTaleIs_22 : decode cX10_whoseTaleIs 22 = .ok (.if_icmp .ne 10, 3) := DX10_whoseTaleIs _ _ _ rfl
theorem dX10_whoseTaleIs_32 : decode cX10_whoseTaleIs 32 = .ok (.iinc 4 1, 3) := DX10_whoseTaleIs _ _ _ rfl
theorem dX10_whoseTaleIs_35 : decode cX10_whoseTaleIs 35 = .ok (.goto (-30), 3) := DX10_whoseTaleIs _ _ _ rfl
theorem dX10_whoseTaleIs_25 : decode cX10_whoseTaleIs 25 = .ok (.iload_n 3, 1) := DX10_whoseTaleIs _ _ _ rfl
theorem dX10_whoseTaleIs_26 : decode cX10_whoseTaleIs 26 = .ok (.iconst 1, 1) := DX10_whoseTaleIs _ _ _ rfl
theorem dX10_whoseTaleIs_27 : decode cX10_whoseTaleIs 27 = .ok (.iload 4, 2) := DX10_whoseTaleIs _ _ _ rfl
theorem dX10_whoseTaleIs_29 : decode cX10_whoseTaleIs 29 = .ok (.ishl, 1) := DX10_whoseTaleIs _ _ _ rfl
theorem dX10_whoseTaleIs_30 : decode cX10_whoseTaleIs 30 = .ok (.ior, 1) := DX10_whoseTaleIs _ _ _ rfl
theorem dX10_whoseTaleIs_31 : decode cX10_whoseTaleIs 31 = .ok (.istore_n 3, 1) := DX10_whoseTaleIs _ _ _ rfl
theorem dX10_whoHasTale_0 : decode cX10_whoHasTale 0 = .ok (.aload_n 0, 1) := DX10_whoHasTale _ _ _ rfl
theorem dX10_whoHasTale_1 : decode cX10_whoHasTale 1 = .ok (.invokevirtual 111, 3) := DX10_whoHasTale _ _ _ rfl
theorem dX10_whoHasTale_4 : decode cX10_whoHasTale 4 = .ok (.aload_n 0, 1) := DX10_whoHasTale _ _ _ rfl
theorem dX10_whoHasTale_5 : decode cX10_whoHasTale 5 = .ok (.iload_n 1, 1) := DX10_whoHasTale _ _ _ rfl
theorem dX10_whoHasTale_6 : decode cX10_whoHasTale 6 = .ok (.iconst (-1), 1) := DX10_whoHasTale _ _ _ rfl
theorem dX10_whoHasTale_7 : decode cX10_whoHasTale 7 = .ok (.invokevirtual 118, 3) := DX10_whoHasTale _ _ _ rfl
theorem dX10_whoHasTale_10 : decode cX10_whoHasTale 10 = .ok (.iconst (-1), 1) := DX10_whoHasTale _ _ _ rfl
theorem dX10_whoHasTale_11 : decode cX10_whoHasTale 11 = .ok (.ixor, 1) := DX10_whoHasTale _ _ _ rfl
theorem dX10_whoHasTale_12 : decode cX10_whoHasTale 12 = .ok (.iand, 1) := DX10_whoHasTale _ _ _ rfl
theorem dX10_whoHasTale_13 : decode cX10_whoHasTale 13 = .ok (.ireturn, 1) := DX10_whoHasTale _ _ _ rfl
theorem dX1_peopleOfNews_0 : decode cX1_peopleOfNews 0 = .ok (.iconst 0, 1) := DX1_peopleOfNews _ _ _ rfl
theorem dX1_peopleOfNews_1 : decode cX1_peopleOfNews 1 = .ok (.istore_n 2, 1) := DX1_peopleOfNews _ _ _ rfl
theorem dX1_peopleOfNews_2 : decode cX1_peopleOfNews 2 = .ok (.iconst 0, 1) := DX1_peopleOfNews _ _ _ rfl
theorem dX1_peopleOfNews_3 : decode cX1_peopleOfNews 3 = .ok (.istore_n 3, 1) := DX1_peopleOfNews _ _ _ rfl
theorem dX1_peopleOfNews_4 : decode cX1_peopleOfNews 4 = .ok (.iload_n 3, 1) := DX1_peopleOfNews _ _ _ rfl
theorem dX1_peopleOfNews_5 : decode cX1_peopleOfNews 5 = .ok (.aload_n 0, 1) := DX1_peopleOfNews _ _ _ rfl
theorem dX1_peopleOfNews_6 : decode cX1_peopleOfNews 6 = .ok (.arraylength, 1) := DX1_peopleOfNews _ _ _ rfl
theorem dX1_peopleOfNews_7 : decode cX1_peopleOfNews 7 = .ok (.if_icmp .ge 25, 3) := DX1_peopleOfNews _ _ _ rfl
theorem dX1_peopleOfNews_32 : decode cX1_peopleOfNews 32 = .ok (.iload_n 2, 1) := DX1_peopleOfNews _ _ _ rfl
theorem dX1_peopleOfNews_33 : decode cX1_peopleOfNews 33 = .ok (.ireturn, 1) := DX1_peopleOfNews _ _ _ rfl
theorem dX1_peopleOfNews_10 : decode cX1_peopleOfNews 10 = .ok (.aload_n 0, 1) := DX1_peopleOfNews _ _ _ rfl
theorem dX1_peopleOfNews_11 : decode cX1_peopleOfNews 11 = .ok (.iload_n 3, 1) := DX1_peopleOfNews _ _ _ rfl
theorem dX1_peopleOfNews_12 : decode cX1_peopleOfNews 12 = .ok (.iaload, 1) := DX1_peopleOfNews _ _ _ rfl
theorem dX1_peopleOfNews_13 : decode cX1_peopleOfNews 13 = .ok (.iload_n 1, 1) := DX1_peopleOfNews _ _ _ rfl
theorem dX1_peopleOfNews_14 : decode cX1_peopleOfNews 14 = .ok (.invokestatic 84, 3) := DX1_peopleOfNews _ _ _ rfl
theorem dX1_peopleOfNews_17 : decode cX1_peopleOfNews 17 = .ok (.ifCond .eq 9, 3) := DX1_peopleOfNews _ _ _ rfl
theorem dX1_peopleOfNews_26 : decode cX1_peopleOfNews 26 = .ok (.iinc 3 1, 3) := DX1_peopleOfNews _ _ _ rfl
theorem dX1_peopleOfNews_29 : decode cX1_peopleOfNews 29 = .ok (.goto (-25), 3) := DX1_peopleOfNews _ _ _ rfl
theorem dX1_peopleOfNews_20 : decode cX1_peopleOfNews 20 = .ok (.iload_n 2, 1) := DX1_peopleOfNews _ _ _ rfl
theorem dX1_peopleOfNews_21 : decode cX1_peopleOfNews 21 = .ok (.iconst 1, 1) := DX1_peopleOfNews _ _ _ rfl
theorem dX1_peopleOfNews_22 : decode cX1_peopleOfNews 22 = .ok (.iload_n 3, 1) := DX1_peopleOfNews _ _ _ rfl
theorem dX1_peopleOfNews_23 : decode cX1_peopleOfNews 23 = .ok (.ishl, 1) := DX1_peopleOfNews _ _ _ rfl
theorem dX1_peopleOfNews_24 : decode cX1_peopleOfNews 24 = .ok (.ior, 1) := DX1_peopleOfNews _ _ _ rfl
theorem dX1_peopleOfNews_25 : decode cX1_peopleOfNews 25 = .ok (.istore_n 2, 1) := DX1_peopleOfNews _ _ _ rfl
theorem dX1_whoKnows_0 : decode cX1_whoKnows 0 = .ok (.aload_n 0, 1) := DX1_whoKnows _ _ _ rfl
theorem dX1_whoKnows_1 : decode cX1_whoKnows 1 = .ok (.getfield 9, 3) := DX1_whoKnows _ _ _ rfl
theorem dX1_whoKnows_4 : decode cX1_whoKnows 4 = .ok (.iload_n 1, 1) := DX1_whoKnows _ _ _ rfl
theorem dX1_whoKnows_5 : decode cX1_whoKnows 5 = .ok (.invokestatic 87, 3) := DX1_whoKnows _ _ _ rfl
theorem dX1_whoKnows_8 : decode cX1_whoKnows 8 = .ok (.ireturn, 1) := DX1_whoKnows _ _ _ rfl
theorem dX11_lowestOf_0 : decode cX11_lowestOf 0 = .ok (.iconst 0, 1) := DX11_lowestOf _ _ _ rfl
theorem dX11_lowestOf_1 : decode cX11_lowestOf 1 = .ok (.istore_n 1, 1) := DX11_lowestOf _ _ _ rfl
theorem dX11_lowestOf_2 : decode cX11_lowestOf 2 = .ok (.iload_n 1, 1) := DX11_lowestOf _ _ _ rfl
theorem dX11_lowestOf_3 : decode cX11_lowestOf 3 = .ok (.bipush 7, 2) := DX11_lowestOf _ _ _ rfl
theorem dX11_lowestOf_5 : decode cX11_lowestOf 5 = .ok (.if_icmp .ge 19, 3) := DX11_lowestOf _ _ _ rfl
theorem dX11_lowestOf_24 : decode cX11_lowestOf 24 = .ok (.iconst (-1), 1) := DX11_lowestOf _ _ _ rfl
theorem dX11_lowestOf_25 : decode cX11_lowestOf 25 = .ok (.ireturn, 1) := DX11_lowestOf _ _ _ rfl
theorem dX11_lowestOf_8 : decode cX11_lowestOf 8 = .ok (.iload_n 0, 1) := DX11_lowestOf _ _ _ rfl
theorem dX11_lowestOf_9 : decode cX11_lowestOf 9 = .ok (.iload_n 1, 1) := DX11_lowestOf _ _ _ rfl
theorem dX11_lowestOf_10 : decode cX11_lowestOf 10 = .ok (.invokestatic 148, 3) := DX11_lowestOf _ _ _ rfl
theorem dX11_lowestOf_13 : decode cX11_lowestOf 13 = .ok (.ifCond .eq 5, 3) := DX11_lowestOf _ _ _ rfl
theorem dX11_lowestOf_18 : decode cX11_lowestOf 18 = .ok (.iinc 1 1, 3) := DX11_lowestOf _ _ _ rfl
theorem dX11_lowestOf_21 : decode cX11_lowestOf 21 = .ok (.goto (-19), 3) := DX11_lowestOf _ _ _ rfl
theorem dX11_lowestOf_16 : decode cX11_lowestOf 16 = .ok (.iload_n 1, 1) := DX11_lowestOf _ _ _ rfl
theorem dX11_lowestOf_17 : decode cX11_lowestOf 17 = .ok (.ireturn, 1) := DX11_lowestOf _ _ _ rfl
theorem dX11_fits_10 : decode cX11_fits 10 = .ok (.iload_n 2, 1) := DX11_fits _ _ _ rfl
theorem dX11_fits_11 : decode cX11_fits 11 = .ok (.invokestatic 208, 3) := DX11_fits _ _ _ rfl
theorem dX11_fits_14 : decode cX11_fits 14 = .ok (.ifCond .ne 5, 3) := DX11_fits _ _ _ rfl
theorem dX11_fits_19 : decode cX11_fits 19 = .ok (.aload_n 3, 1) := DX11_fits _ _ _ rfl
theorem dX11_fits_20 : decode cX11_fits 20 = .ok (.getfield 165, 3) := DX11_fits _ _ _ rfl
theorem dX11_fits_23 : decode cX11_fits 23 = .ok (.iload_n 2, 1) := DX11_fits _ _ _ rfl
theorem dX11_fits_24 : decode cX11_fits 24 = .ok (.invokevirtual 316, 3) := DX11_fits _ _ _ rfl
theorem dX11_fits_27 : decode cX11_fits 27 = .ok (.istore 4, 2) := DX11_fits _ _ _ rfl
theorem dX11_fits_29 : decode cX11_fits 29 = .ok (.iconst 0, 1) := DX11_fits _ _ _ rfl
theorem dX11_fits_30 : decode cX11_fits 30 = .ok (.istore 5, 2) := DX11_fits _ _ _ rfl
theorem dX11_fits_32 : decode cX11_fits 32 = .ok (.iconst 0, 1) := DX11_fits _ _ _ rfl
theorem dX11_fits_33 : decode cX11_fits 33 = .ok (.istore 6, 2) := DX11_fits _ _ _ rfl
theorem dX11_fits_35 : decode cX11_fits 35 = .ok (.iload 6, 2) := DX11_fits _ _ _ rfl
theorem dX11_fits_37 : decode cX11_fits 37 = .ok (.bipush 24, 2) := DX11_fits _ _ _ rfl
theorem dX11_fits_39 : decode cX11_fits 39 = .ok (.if_icmp .gt 61, 3) := DX11_fits _ _ _ rfl
theorem dX11_fits_100 : decode cX11_fits 100 = .ok (.iload 5, 2) := DX11_fits _ _ _ rfl
theorem dX11_fits_102 : decode cX11_fits 102 = .ok (.iload 4, 2) := DX11_fits _ _ _ rfl
theorem dX11_fits_104 : decode cX11_fits 104 = .ok (.ior, 1) := DX11_fits _ _ _ rfl
theorem dX11_fits_105 : decode cX11_fits 105 = .ok (.istore 5, 2) := DX11_fits _ _ _ rfl
theorem dX11_fits_107 : decode cX11_fits 107 = .ok (.iload 5, 2) := DX11_fits _ _ _ rfl
theorem dX11_fits_109 : decode cX11_fits 109 = .ok (.invokestatic 322, 3) := DX11_fits _ _ _ rfl
theorem dX11_fits_112 : decode cX11_fits 112 = .ok (.ireturn, 1) := DX11_fits _ _ _ rfl
theorem dX11_fits_42 : decode cX11_fits 42 = .ok (.aload_n 0, 1) := DX11_fits _ _ _ rfl
theorem dX11_fits_43 : decode cX11_fits 43 = .ok (.getfield 31, 3) := DX11_fits _ _ _ rfl
theorem dX11_fits_46 : decode cX11_fits 46 = .ok (.aload_n 3, 1) := DX11_fits _ _ _ rfl
theorem dX11_fits_47 : decode cX11_fits 47 = .ok (.iload 6, 2) := DX11_fits _ _ _ rfl
theorem dX11_fits_49 : decode cX11_fits 49 = .ok (.invokevirtual 189, 3) := DX11_fits _ _ _ rfl
theorem dX11_fits_52 : decode cX11_fits 52 = .ok (.iload 4, 2) := DX11_fits _ _ _ rfl
theorem dX11_fits_54 : decode cX11_fits 54 = .ok (.aload_n 0, 1) := DX11_fits _ _ _ rfl
theorem dX11_fits_55 : decode cX11_fits 55 = .ok (.getfield 31, 3) := DX11_fits _ _ _ rfl
theorem dX11_fits_58 : decode cX11_fits 58 = .ok (.iload_n 2, 1) := DX11_fits _ _ _ rfl
theorem dX11_fits_59 : decode cX11_fits 59 = .ok (.invokevirtual 230, 3) := DX11_fits _ _ _ rfl
theorem dX11_fits_62 : decode cX11_fits 62 = .ok (.iand, 1) := DX11_fits _ _ _ rfl
theorem dX11_fits_63 : decode cX11_fits 63 = .ok (.istore 7, 2) := DX11_fits _ _ _ rfl
theorem dX11_fits_65 : decode cX11_fits 65 = .ok (.iload 5, 2) := DX11_fits _ _ _ rfl
theorem dX11_fits_67 : decode cX11_fits 67 = .ok (.iload 7, 2) := DX11_fits _ _ _ rfl
theorem dX11_fits_69 : decode cX11_fits 69 = .ok (.aload_n 3, 1) := DX11_fits _ _ _ rfl
theorem dX11_fits_70 : decode cX11_fits 70 = .ok (.getfield 165, 3) := DX11_fits _ _ _ rfl
theorem dX11_fits_73 : decode cX11_fits 73 = .ok (.iload_n 2, 1) := DX11_fits _ _ _ rfl
theorem dX11_fits_74 : decode cX11_fits 74 = .ok (.iload 6, 2) := DX11_fits _ _ _ rfl
theorem dX11_fits_76 : decode cX11_fits 76 = .ok (.invokevirtual 319, 3) := DX11_fits _ _ _ rfl
theorem dX11_fits_79 : decode cX11_fits 79 = .ok (.iconst (-1), 1) := DX11_fits _ _ _ rfl
theorem dX11_fits_80 : decode cX11_fits 80 = .ok (.ixor, 1) := DX11_fits _ _ _ rfl
theorem dX11_fits_81 : decode cX11_fits 81 = .ok (.iand, 1) := DX11_fits _ _ _ rfl
theorem dX11_fits_82 : decode cX11_fits 82 = .ok (.ior, 1) := DX11_fits _ _ _ rfl
theorem dX11_fits_83 : decode cX11_fits 83 = .ok (.istore 5, 2) := DX11_fits _ _ _ rfl
theorem dX11_fits_85 : decode cX11_fits 85 = .ok (.iload 4, 2) := DX11_fits _ _ _ rfl
theorem dX11_fits_87 : decode cX11_fits 87 = .ok (.iload 7, 2) := DX11_fits _ _ _ rfl
theorem dX11_fits_89 : decode cX11_fits 89 = .ok (.iconst (-1), 1) := DX11_fits _ _ _ rfl
theorem dX11_fits_90 : decode cX11_fits 90 = .ok (.ixor, 1) := DX11_fits _ _ _ rfl
theorem dX11_fits_91 : decode cX11_fits 91 = .ok (.iand, 1) := DX11_fits _ _ _ rfl
theorem dX11_fits_92 : decode cX11_fits 92 = .ok (.istore 4, 2) := DX11_fits _ _ _ rfl
theorem dX11_fits_94 : decode cX11_fits 94 = .ok (.iinc 6 1, 3) := DX11_fits _ _ _ rfl
theorem dX11_fits_97 : decode cX11_fits 97 = .ok (.goto (-62), 3) := DX11_fits _ _ _ rfl
def F_X10_taleOf (nw : Nat) (o : Nat) (ta : Nat → Int32) : Int32 := ta (nw * 7 + o)
set_option maxHeartbeats 4000000 in
set_option maxRecDepth 100000 in
theorem K_X10_taleOf (l : Launch) (g : GG) (v : Nat) (v3 : Nat) (v4 : Nat) (v5 : Nat) (v6 : Nat) (v7 : Nat) (v8 : Nat) (v9 : Nat) (v10 : Nat) (v11 : Nat) (v12 : Nat) (v13 : Nat) (v15 : Nat) (pe : Nat) (lc : Int32) (de : Int32) (gl : Int32) (nw : Nat) (o : Nat) (ta : Nat → Int32) (hnw : nw < 4) (ho : o < 7) : MetI l g yX10_taleOf cX10_taleOf 3 (some .int) 0 0 0 [.ref v, .int (nI nw), .int (nI o)] [(v, .inr (10, [.int (nI pe), .int lc, .int de, .ref v3, .ref v4, .ref v5, .ref v6, .ref v7, .ref v8, .ref v9, .ref v10, .ref v11, .ref v12, .ref v13, .int gl, .ref v15])), (v13, .inl (g.2.1 1, 28, .inl ta))] (fun r u => r = (F_X10_taleOf nw o ta) ∧ u = [(v, .inr (10, [.int (nI pe), .int lc, .int de, .ref v3, .ref v4, .ref v5, .ref v6, .ref v7, .ref v8, .ref v9, .ref v10, .ref v11, .ref v12, .ref v13, .int gl, .ref v15])), (v13, .inl (g.2.1 1, 28, .inl ta))]) := by
  refine MetI.of (own := RX10) rfl (by decide) (Nat.le_of_ble_eq_true rfl) ?_
  intro p e s m below meth c A ls args Q hQ X hr hin hW hl
  have hx := X.1
  have hb := X.2.1
  have hl : lv_has ls 3 [(0, .ref v), (1, .int (nI nw)), (2, .int (nI o))] := hl
  refine lv_aload_n (pc := 0) hx hb dX10_taleOf_0 rfl (lv_at hl 0 rfl) ?_
  refine r_get X hW 0 ciX10 13 rfl (by decide) m_314 rfl rfl dX10_taleOf_1 ?_
  refine lv_iload_n (pc := 4) hx hb dX10_taleOf_4 rfl (lv_at hl 1 rfl) ?_
  refine lv_bipush (v := 7) (pc := 5) hx hb dX10_taleOf_5 (by decide) ?_
  refine lv_imul (pc := 7) hx hb dX10_taleOf_7 ?_
  refine lv_topi (fun v1 ev1 => ?_)
  obtain rfl : v1 = nI (nw * 7) := ev1.trans (pk_mul nw 7)
  refine lv_iload_n (pc := 8) hx hb dX10_taleOf_8 rfl (lv_at hl 2 rfl) ?_
  refine lv_iadd (pc := 9) hx hb dX10_taleOf_9 ?_
  refine lv_topi (fun v2 ev2 => ?_)
  obtain rfl : v2 = nI (nw * 7 + o) := ev2.trans (nI_add _ _)
  refine r_iald X hW 1 rfl (vp_in_nI (by omega) (by decide)) dX10_taleOf_10 ?_
  refine lv_topi (fun v3 ev3 => ?_)
  obtain rfl : v3 = ta (nw * 7 + o) := ev3.trans (by rw [nI_clamp (by omega)])
  have hF : F_X10_taleOf nw o ta = ta (nw * 7 + o) := show F_X10_taleOf nw o ta = ta (nw * 7 + o) from rfl
  exact e_i (u := [(v, .inr (10, [.int (nI pe), .int lc, .int de, .ref v3, .ref v4, .ref v5, .ref v6, .ref v7, .ref v8, .ref v9, .ref v10, .ref v11, .ref v12, .ref v13, .int gl, .ref v15])), (v13, .inl (g.2.1 1, 28, .inl ta))]) X hQ hr (hW) [0, 1] rfl rfl (⟨hF.symm, rfl⟩) ⟨Nat.le_of_ble_eq_true rfl, Nat.le_of_ble_eq_true rfl⟩ dX10_taleOf_11

def L1_X10_whoseTaleIss (nw : Nat) (ho : Int32) (ta : Nat → Int32) (j1 : Nat) (x3_1 : Int32) : Int32 := if F_X10_taleOf nw j1 ta = ho then (x3_1 ||| ((1 : Int32) <<< ((nI j1) &&& 31))) else (x3_1)
def L1_X10_whoseTaleIs (nw : Nat) (ho : Int32) (ta : Nat → Int32) (i0_ : Int32) : Nat → Int32
  | 0 => (i0_)
  | k_ + 1 => L1_X10_whoseTaleIss nw ho ta k_ (L1_X10_whoseTaleIs nw ho ta i0_ k_)
def F_X10_whoseTaleIs (pe : Nat) (nw : Nat) (ho : Int32) (ta : Nat → Int32) : Int32 := (L1_X10_whoseTaleIs nw ho ta (0 : Int32) pe)
set_option maxHeartbeats 4000000 in
set_option maxRecDepth 100000 in
theorem K_X10_whoseTaleIs (l : Launch) (g : GG) (v : Nat) (v3 : Nat) (v4 : Nat) (v5 : Nat) (v6 : Nat) (v7 : Nat) (v8 : Nat) (v9 : Nat) (v10 : Nat) (v11 : Nat) (v12 : Nat) (v13 : Nat) (v15 : Nat) (pe : Nat) (lc : Int32) (de : Int32) (gl : Int32) (nw : Nat) (ho : Int32) (ta : Nat → Int32) (hnw : nw < 4) (hpe : pe ≤ 7) : MetI l g yX10_whoseTaleIs cX10_whoseTaleIs 5 (some .int) 1 0 0 [.ref v, .int (nI nw), .int ho] [(v, .inr (10, [.int (nI pe), .int lc, .int de, .ref v3, .ref v4, .ref v5, .ref v6, .ref v7, .ref v8, .ref v9, .ref v10, .ref v11, .ref v12, .ref v13, .int gl, .ref v15])), (v13, .inl (g.2.1 1, 28, .inl ta))] (fun r u => r = (F_X10_whoseTaleIs pe nw ho ta) ∧ u = [(v, .inr (10, [.int (nI pe), .int lc, .int de, .ref v3, .ref v4, .ref v5, .ref v6, .ref v7, .ref v8, .ref v9, .ref v10, .ref v11, .ref v12, .ref v13, .int gl, .ref v15])), (v13, .inl (g.2.1 1, 28, .inl ta))]) := by
  refine MetI.of (own := RX10) rfl (by decide) (Nat.le_of_ble_eq_true rfl) ?_
  intro p e s m below meth c A ls args Q hQ X hr hin hW hl
  have hx := X.1
  have hb := X.2.1
  have hl : lv_has ls 5 [(0, .ref v), (1, .int (nI nw)), (2, .int ho)] := hl
  refine lv_iconst (v := 0) (pc := 0) hx hb dX10_whoseTaleIs_0 (by decide) ?_
  refine lv_istore_n (lv' := [(3, .int 0), (0, .ref v), (1, .int (nI nw)), (2, .int ho)]) (pc := 1) hx hb dX10_whoseTaleIs_1 rfl hl (by decide) rfl (fun ls hl => ?_)
  refine lv_iconst (v := 0) (pc := 2) hx hb dX10_whoseTaleIs_2 (by decide) ?_
  refine lv_istore (lv' := [(4, .int 0), (3, .int 0), (0, .ref v), (1, .int (nI nw)), (2, .int ho)]) (pc := 3) hx hb dX10_whoseTaleIs_3 hl (by decide) rfl (fun ls hl => ?_)
  have loop1 : ∀ (fu1 : Nat) (j1 : Nat) (x3_1 : Int32), (pe < fu1 + j1) → (j1 ≤ pe) → (x3_1 = L1_X10_whoseTaleIs nw ho ta (0 : Int32) j1) → ∀ (H : Heap) (locs : List Loc) (ls : Array Slot), WD g A s H locs [(v, .inr (10, [.int (nI pe), .int lc, .int de, .ref v3, .ref v4, .ref v5, .ref v6, .ref v7, .ref v8, .ref v9, .ref v10, .ref v11, .ref v12, .ref v13, .int gl, .ref v15])), (v13, .inl (g.2.1 1, 28, .inl ta))] → lv_has ls 5 [(4, .int (nI j1)), (3, .int x3_1), (0, .ref v), (1, .int (nI nw)), (2, .int ho)] → W p l e (RM 1 0 0) s m args below meth c H locs 0 0 Q (F0 m 5 ls []) := by
    intro fu1
    induction fu1 with
    | zero =>
      intro j1 x3_1 hm1 hj1 hst1
      exact absurd hm1 (by omega)
    | succ fu1 ih1 =>
      intro j1 x3_1 hm1 hj1 hst1 H locs ls hW hl
      refine lv_iload (pc := 5) hx hb dX10_whoseTaleIs_5 (lv_at hl 0 rfl) ?_
      refine lv_aload_n (pc := 7) hx hb dX10_whoseTaleIs_7 rfl (lv_at hl 2 rfl) ?_
      refine r_get X hW 0 ciX10 0 rfl (by decide) m_272 rfl rfl dX10_whoseTaleIs_8 ?_
      refine lv_icmp_ge (tgt := 38) (pc := 11) hx hb dX10_whoseTaleIs_11 rfl (fun c1 => ?_) (fun c1 => ?_)
      · have h2 : pe ≤ j1 := (nI_leI (a := pe) (b := j1) (by omega) (by omega)).mp c1
        have hN1 : j1 = pe := by omega
        rw [hN1] at hst1
        subst hst1
        have hW : WD g A s _ _ [(v, .inr (10, [.int (nI pe), .int lc, .int de, .ref v3, .ref v4, .ref v5, .ref v6, .ref v7, .ref v8, .ref v9, .ref v10, .ref v11, .ref v12, .ref v13, .int gl, .ref v15])), (v13, .inl (g.2.1 1, 28, .inl ta))] := hW
        refine lv_iload_n (pc := 38) hx hb dX10_whoseTaleIs_38 rfl (lv_at hl 1 rfl) ?_
        have hF : F_X10_whoseTaleIs pe nw ho ta = (L1_X10_whoseTaleIs nw ho ta (0 : Int32) pe) := show F_X10_whoseTaleIs pe nw ho ta = (L1_X10_whoseTaleIs nw ho ta (0 : Int32) pe) from rfl
        exact e_i (u := [(v, .inr (10, [.int (nI pe), .int lc, .int de, .ref v3, .ref v4, .ref v5, .ref v6, .ref v7, .ref v8, .ref v9, .ref v10, .ref v11, .ref v12, .ref v13, .int gl, .ref v15])), (v13, .inl (g.2.1 1, 28, .inl ta))]) X hQ hr (hW) [0, 1] rfl rfl (⟨hF.symm, rfl⟩) ⟨Nat.le_of_ble_eq_true rfl, Nat.le_of_ble_eq_true rfl⟩ dX10_whoseTaleIs_39
      · have h3 : ¬ (pe ≤ j1) := fun q => c1 ((nI_leI (a := pe) (b := j1) (by omega) (by omega)).mpr q)
        refine lv_aload_n (pc := 14) hx hb dX10_whoseTaleIs_14 rfl (lv_at hl 2 rfl) ?_
        refine lv_iload_n (pc := 15) hx hb dX10_whoseTaleIs_15 rfl (lv_at hl 3 rfl) ?_
        refine lv_iload (pc := 16) hx hb dX10_whoseTaleIs_16 (lv_at hl 0 rfl) ?_
        refine c_Vi (pc := 18) (As := [.int (nI nw), .int (nI j1)]) (rest := []) (wr := []) X hW 0 ciX10 rfl (K_X10_taleOf l g v v3 v4 v5 v6 v7 v8 v9 v10 v11 v12 v13 v15 pe lc de gl nw j1 ta (by omega) (by omega)) vX10_115 [0, 1] [] rfl rfl rfl rfl rfl rfl hl.1 rfl (Nat.le_of_ble_eq_true rfl) ⟨Nat.le_of_ble_eq_true rfl, Nat.le_of_ble_eq_true rfl⟩ ⟨Nat.le_of_ble_eq_true rfl, Nat.le_of_ble_eq_true rfl⟩ dX10_whoseTaleIs_18 (fun r4 u9 H locs hq hW => ?_)
        obtain ⟨rfl, rfl⟩ := hq
        have hW : WD g A s _ _ [(v, .inr (10, [.int (nI pe), .int lc, .int de, .ref v3, .ref v4, .ref v5, .ref v6, .ref v7, .ref v8, .ref v9, .ref v10, .ref v11, .ref v12, .ref v13, .int gl, .ref v15])), (v13, .inl (g.2.1 1, 28, .inl ta))] := hW
        refine lv_iload_n (pc := 21) hx hb dX10_whoseTaleIs_21 rfl (lv_at hl 4 rfl) ?_
        refine lv_icmp_ne (tgt := 32) (pc := 22) hx hb dX10_whoseTaleIs_22 rfl (fun c5 => ?_) (fun c5 => ?_)
        · refine lv_iinc (v := nI (j1 + 1)) (lv' := [(4, .int (nI (j1 + 1))), (3, .int x3_1), (0, .ref v), (1, .int (nI nw)), (2, .int ho)]) (pc := 32) hx hb dX10_whoseTaleIs_32 hl (k := 0) rfl (nI_add j1 1) (by decide) rfl (fun ls hl => ?_)
          refine lv_goto (tgt := 5) (pc := 35) hx hb dX10_whoseTaleIs_35 rfl ?_
          exact ih1 (j1 + 1) x3_1 (by omega) (by omega) (by rw [L1_X10_whoseTaleIs, ← hst1]; exact (show L1_X10_whoseTaleIss nw ho ta j1 x3_1 = x3_1 from by rw [L1_X10_whoseTaleIss, if_neg c5]).symm) _ _ _ hW (lv_sub hl [0, 1, 2, 3, 4] rfl)
        · refine lv_iload_n (pc := 25) hx hb dX10_whoseTaleIs_25 rfl (lv_at hl 1 rfl) ?_
          refine lv_iconst (v := 1) (pc := 26) hx hb dX10_whoseTaleIs_26 (by decide) ?_
          refine lv_iload (pc := 27) hx hb dX10_whoseTaleIs_27 (lv_at hl 0 rfl) ?_
          refine lv_ishl (pc := 29) hx hb dX10_whoseTaleIs_29 ?_
          refine lv_ior (pc := 30) hx hb dX10_whoseTaleIs_30 ?_
          refine lv_istore_n (lv' := [(3, .int (x3_1 ||| ((1 : Int32) <<< ((nI j1) &&& 31)))), (4, .int (nI j1)), (0, .ref v), (1, .int (nI nw)), (2, .int ho)]) (pc := 31) hx hb dX10_whoseTaleIs_31 rfl hl (by decide) rfl (fun ls hl => ?_)
          refine lv_iinc (v := nI (j1 + 1)) (lv' := [(4, .int (nI (j1 + 1))), (3, .int (x3_1 ||| ((1 : Int32) <<< ((nI j1) &&& 31)))), (0, .ref v), (1, .int (nI nw)), (2, .int ho)]) (pc := 32) hx hb dX10_whoseTaleIs_32 hl (k := 1) rfl (nI_add j1 1) (by decide) rfl (fun ls hl => ?_)
          refine lv_goto (tgt := 5) (pc := 35) hx hb dX10_whoseTaleIs_35 rfl ?_
          exact ih1 (j1 + 1) (x3_1 ||| ((1 : Int32) <<< ((nI j1) &&& 31))) (by omega) (by omega) (by rw [L1_X10_whoseTaleIs, ← hst1]; exact (show L1_X10_whoseTaleIss nw ho ta j1 x3_1 = x3_1 ||| ((1 : Int32) <<< ((nI j1) &&& 31)) from by rw [L1_X10_whoseTaleIss, if_pos c5]).symm) _ _ _ hW (lv_sub hl [0, 1, 2, 3, 4] rfl)
  exact loop1 (pe + 1) 0 (0 : Int32) (by omega) (by omega) rfl _ _ _ hW (lv_sub hl [0, 1, 2, 3, 4] rfl)

def F_X10_whoHasTale (pe : Nat) (nw : Nat) (ta : Nat → Int32) : Int32 := (evy (nI pe)) &&& ((F_X10_whoseTaleIs pe nw (-1 : Int32) ta) ^^^ (-1 : Int32))
set_option maxHeartbeats 4000000 in
set_option maxRecDepth 100000 in
theorem K_X10_whoHasTale (l : Launch) (g : GG) (v : Nat) (v3 : Nat) (v4 : Nat) (v5 : Nat) (v6 : Nat) (v7 : Nat) (v8 : Nat) (v9 : Nat) (v10 : Nat) (v11 : Nat) (v12 : Nat) (v13 : Nat) (v15 : Nat) (pe : Nat) (lc : Int32) (de : Int32) (gl : Int32) (nw : Nat) (ta : Nat → Int32) (hnw : nw < 4) (hpe : pe ≤ 7) : MetI l g yX10_whoHasTale cX10_whoHasTale 2 (some .int) 2 0 0 [.ref v, .int (nI nw)] [(v, .inr (10, [.int (nI pe), .int lc, .int de, .ref v3, .ref v4, .ref v5, .ref v6, .ref v7, .ref v8, .ref v9, .ref v10, .ref v11, .ref v12, .ref v13, .int gl, .ref v15])), (v13, .inl (g.2.1 1, 28, .inl ta))] (fun r u => r = (F_X10_whoHasTale pe nw ta) ∧ u = [(v, .inr (10, [.int (nI pe), .int lc, .int de, .ref v3, .ref v4, .ref v5, .ref v6, .ref v7, .ref v8, .ref v9, .ref v10, .ref v11, .ref v12, .ref v13, .int gl, .ref v15])), (v13, .inl (g.2.1 1, 28, .inl ta))]) := by
  refine MetI.of (own := RX10) rfl (by decide) (Nat.le_of_ble_eq_true rfl) ?_
  intro p e s m below meth c A ls args Q hQ X hr hin hW hl
  have hx := X.1
  have hb := X.2.1
  have hl : lv_has ls 2 [(0, .ref v), (1, .int (nI nw))] := hl
  refine lv_aload_n (pc := 0) hx hb dX10_whoHasTale_0 rfl (lv_at hl 0 rfl) ?_
  refine c_Vi (pc := 1) (As := []) (rest := []) (wr := [(v13, .inl (g.2.1 1, 28, .inl ta))]) X hW 0 ciX10 rfl (C_X10_everyoneG l g v v3 v4 v5 v6 v7 v8 v9 v10 v11 v12 v13 v15 (nI pe) lc de gl) vX10_111 [0] [1] rfl rfl rfl rfl rfl rfl hl.1 rfl (Nat.le_of_ble_eq_true rfl) ⟨Nat.le_of_ble_eq_true rfl, Nat.le_of_ble_eq_true rfl⟩ ⟨Nat.le_of_ble_eq_true rfl, Nat.le_of_ble_eq_true rfl⟩ dX10_whoHasTale_1 (fun r1 u9 H locs hq hW => ?_)
  obtain ⟨rfl, rfl⟩ := hq
  have hW : WD g A s _ _ [(v13, .inl (g.2.1 1, 28, .inl ta)), (v, .inr (10, [.int (nI pe), .int lc, .int de, .ref v3, .ref v4, .ref v5, .ref v6, .ref v7, .ref v8, .ref v9, .ref v10, .ref v11, .ref v12, .ref v13, .int gl, .ref v15]))] := hW
  refine lv_aload_n (pc := 4) hx hb dX10_whoHasTale_4 rfl (lv_at hl 0 rfl) ?_
  refine lv_iload_n (pc := 5) hx hb dX10_whoHasTale_5 rfl (lv_at hl 1 rfl) ?_
  refine lv_iconst (v := (-1)) (pc := 6) hx hb dX10_whoHasTale_6 (by decide) ?_
  refine c_Vi (pc := 7) (As := [.int (nI nw), .int (-1)]) (rest := [.int (evy (nI pe))]) (wr := []) X hW 1 ciX10 rfl (K_X10_whoseTaleIs l g v v3 v4 v5 v6 v7 v8 v9 v10 v11 v12 v13 v15 pe lc de gl nw (-1 : Int32) ta (by omega) (by omega)) vX10_118 [1, 0] [] rfl rfl rfl rfl rfl rfl hl.1 rfl (Nat.le_of_ble_eq_true rfl) ⟨Nat.le_of_ble_eq_true rfl, Nat.le_of_ble_eq_true rfl⟩ ⟨Nat.le_of_ble_eq_true rfl, Nat.le_of_ble_eq_true rfl⟩ dX10_whoHasTale_7 (fun r2 u9 H locs hq hW => ?_)
  obtain ⟨rfl, rfl⟩ := hq
  have hW : WD g A s _ _ [(v, .inr (10, [.int (nI pe), .int lc, .int de, .ref v3, .ref v4, .ref v5, .ref v6, .ref v7, .ref v8, .ref v9, .ref v10, .ref v11, .ref v12, .ref v13, .int gl, .ref v15])), (v13, .inl (g.2.1 1, 28, .inl ta))] := hW
  refine lv_iconst (v := (-1)) (pc := 10) hx hb dX10_whoHasTale_10 (by decide) ?_
  refine lv_ixor (pc := 11) hx hb dX10_whoHasTale_11 ?_
  refine lv_iand (pc := 12) hx hb dX10_whoHasTale_12 ?_
  have hF : F_X10_whoHasTale pe nw ta = (evy (nI pe)) &&& ((F_X10_whoseTaleIs pe nw (-1 : Int32) ta) ^^^ (-1 : Int32)) := show F_X10_whoHasTale pe nw ta = (evy (nI pe)) &&& ((F_X10_whoseTaleIs pe nw (-1 : Int32) ta) ^^^ (-1 : Int32)) from rfl
  exact e_i (u := [(v, .inr (10, [.int (nI pe), .int lc, .int de, .ref v3, .ref v4, .ref v5, .ref v6, .ref v7, .ref v8, .ref v9, .ref v10, .ref v11, .ref v12, .ref v13, .int gl, .ref v15])), (v13, .inl (g.2.1 1, 28, .inl ta))]) X hQ hr (hW) [0, 1] rfl rfl (⟨hF.symm, rfl⟩) ⟨Nat.le_of_ble_eq_true rfl, Nat.le_of_ble_eq_true rfl⟩ dX10_whoHasTale_13

def L1_X1_peopleOfNewss (kN : Nat → Int32) (nw : Nat) (j1 : Nat) (x2_1 : Int32) : Int32 := if hasv (kN j1) (nI nw) = 0 then (x2_1) else (x2_1 ||| ((1 : Int32) <<< ((nI j1) &&& 31)))
def L1_X1_peopleOfNews (kN : Nat → Int32) (nw : Nat) (i0_ : Int32) : Nat → Int32
  | 0 => (i0_)
  | k_ + 1 => L1_X1_peopleOfNewss kN nw k_ (L1_X1_peopleOfNews kN nw i0_ k_)
def F_X1_peopleOfNews (kN : Nat → Int32) (nw : Nat) : Int32 := (L1_X1_peopleOfNews kN nw (0 : Int32) 7)
set_option maxHeartbeats 4000000 in
set_option maxRecDepth 100000 in
theorem K_X1_peopleOfNews (l : Launch) (g : GG) (yk : Nat) (kN : Nat → Int32) (nw : Nat) (hnw : nw < 4) : MetI l g yX1_peopleOfNews cX1_peopleOfNews 4 (some .int) 1 0 0 [.ref yk, .int (nI nw)] [(yk, .inl (g.2.1 1, 7, .inl kN))] (fun r u => r = (F_X1_peopleOfNews kN nw) ∧ u = [(yk, .inl (g.2.1 1, 7, .inl kN))]) := by
  refine MetI.of (own := RX1) rfl (by decide) (Nat.le_of_ble_eq_true rfl) ?_
  intro p e s m below meth c A ls args Q hQ X hr hin hW hl
  have hx := X.1
  have hb := X.2.1
  have hl : lv_has ls 4 [(0, .ref yk), (1, .int (nI nw))] := hl
  refine lv_iconst (v := 0) (pc := 0) hx hb dX1_peopleOfNews_0 (by decide) ?_
  refine lv_istore_n (lv' := [(2, .int 0), (0, .ref yk), (1, .int (nI nw))]) (pc := 1) hx hb dX1_peopleOfNews_1 rfl hl (by decide) rfl (fun ls hl => ?_)
  refine lv_iconst (v := 0) (pc := 2) hx hb dX1_peopleOfNews_2 (by decide) ?_
  refine lv_istore_n (lv' := [(3, .int 0), (2, .int 0), (0, .ref yk), (1, .int (nI nw))]) (pc := 3) hx hb dX1_peopleOfNews_3 rfl hl (by decide) rfl (fun ls hl => ?_)
  have loop1 : ∀ (fu1 : Nat) (j1 : Nat) (x2_1 : Int32), (7 < fu1 + j1) → (j1 ≤ 7) → (x2_1 = L1_X1_peopleOfNews kN nw (0 : Int32) j1) → ∀ (H : Heap) (locs : List Loc) (ls : Array Slot), WD g A s H locs [(yk, .inl (g.2.1 1, 7, .inl kN))] → lv_has ls 4 [(3, .int (nI j1)), (2, .int x2_1), (0, .ref yk), (1, .int (nI nw))] → W p l e (RM 1 0 0) s m args below meth c H locs 0 0 Q (F0 m 4 ls []) := by
    intro fu1
    induction fu1 with
    | zero =>
      intro j1 x2_1 hm1 hj1 hst1
      exact absurd hm1 (by omega)
    | succ fu1 ih1 =>
      intro j1 x2_1 hm1 hj1 hst1 H locs ls hW hl
      refine lv_iload_n (pc := 4) hx hb dX1_peopleOfNews_4 rfl (lv_at hl 0 rfl) ?_
      refine lv_aload_n (pc := 5) hx hb dX1_peopleOfNews_5 rfl (lv_at hl 2 rfl) ?_
      refine r_alen (v := 7) X hW 0 1 rfl rfl rfl dX1_peopleOfNews_6 ?_
      refine lv_icmp_ge (tgt := 32) (pc := 7) hx hb dX1_peopleOfNews_7 rfl (fun c1 => ?_) (fun c1 => ?_)
      · have h2 : 7 ≤ j1 := (nI_leI (a := 7) (b := j1) (by omega) (by omega)).mp c1
        have hN1 : j1 = 7 := by omega
        rw [hN1] at hst1
        subst hst1
        have hW : WD g A s _ _ [(yk, .inl (g.2.1 1, 7, .inl kN))] := hW
        refine lv_iload_n (pc := 32) hx hb dX1_peopleOfNews_32 rfl (lv_at hl 1 rfl) ?_
        have hF : F_X1_peopleOfNews kN nw = (L1_X1_peopleOfNews kN nw (0 : Int32) 7) := show F_X1_peopleOfNews kN nw = (L1_X1_peopleOfNews kN nw (0 : Int32) 7) from rfl
        exact e_i (u := [(yk, .inl (g.2.1 1, 7, .inl kN))]) X hQ hr (hW) [0] rfl rfl (⟨hF.symm, rfl⟩) ⟨Nat.le_of_ble_eq_true rfl, Nat.le_of_ble_eq_true rfl⟩ dX1_peopleOfNews_33
      · have h3 : ¬ (7 ≤ j1) := fun q => c1 ((nI_leI (a := 7) (b := j1) (by omega) (by omega)).mpr q)
        refine lv_aload_n (pc := 10) hx hb dX1_peopleOfNews_10 rfl (lv_at hl 2 rfl) ?_
        refine lv_iload_n (pc := 11) hx hb dX1_peopleOfNews_11 rfl (lv_at hl 0 rfl) ?_
        refine r_iald X hW 0 rfl (vp_in_nI (by omega) (by decide)) dX1_peopleOfNews_12 ?_
        refine lv_topi (fun v4 ev4 => ?_)
        obtain rfl : v4 = kN j1 := ev4.trans (by rw [nI_clamp (by omega)])
        refine lv_iload_n (pc := 13) hx hb dX1_peopleOfNews_13 rfl (lv_at hl 3 rfl) ?_
        refine c_SNi (pc := 14) (As := [.int (kN j1), .int (nI nw)]) (rest := []) (wr := [(yk, .inl (g.2.1 1, 7, .inl kN))]) X hW (C_X11_has l g (kN j1) (nI nw)) vX1_84 [] [0] rfl rfl rfl rfl rfl rfl hl.1 rfl (Nat.le_of_ble_eq_true rfl) ⟨Nat.le_of_ble_eq_true rfl, Nat.le_of_ble_eq_true rfl⟩ ⟨Nat.le_of_ble_eq_true rfl, Nat.le_of_ble_eq_true rfl⟩ dX1_peopleOfNews_14 (fun r5 u9 H locs hq hW => ?_)
        obtain ⟨rfl, rfl⟩ := hq
        have hW : WD g A s _ _ [(yk, .inl (g.2.1 1, 7, .inl kN))] := hW
        refine lv_if_eq (tgt := 26) (pc := 17) hx hb dX1_peopleOfNews_17 rfl (fun c6 => ?_) (fun c6 => ?_)
        · refine lv_iinc (v := nI (j1 + 1)) (lv' := [(3, .int (nI (j1 + 1))), (2, .int x2_1), (0, .ref yk), (1, .int (nI nw))]) (pc := 26) hx hb dX1_peopleOfNews_26 hl (k := 0) rfl (nI_add j1 1) (by decide) rfl (fun ls hl => ?_)
          refine lv_goto (tgt := 4) (pc := 29) hx hb dX1_peopleOfNews_29 rfl ?_
          exact ih1 (j1 + 1) x2_1 (by omega) (by omega) (by rw [L1_X1_peopleOfNews, ← hst1]; exact (show L1_X1_peopleOfNewss kN nw j1 x2_1 = x2_1 from by rw [L1_X1_peopleOfNewss, if_pos c6]).symm) _ _ _ hW (lv_sub hl [0, 1, 2, 3] rfl)
        · refine lv_iload_n (pc := 20) hx hb dX1_peopleOfNews_20 rfl (lv_at hl 1 rfl) ?_
          refine lv_iconst (v := 1) (pc := 21) hx hb dX1_peopleOfNews_21 (by decide) ?_
          refine lv_iload_n (pc := 22) hx hb dX1_peopleOfNews_22 rfl (lv_at hl 0 rfl) ?_
          refine lv_ishl (pc := 23) hx hb dX1_peopleOfNews_23 ?_
          refine lv_ior (pc := 24) hx hb dX1_peopleOfNews_24 ?_
          refine lv_istore_n (lv' := [(2, .int (x2_1 ||| ((1 : Int32) <<< ((nI j1) &&& 31)))), (3, .int (nI j1)), (0, .ref yk), (1, .int (nI nw))]) (pc := 25) hx hb dX1_peopleOfNews_25 rfl hl (by decide) rfl (fun ls hl => ?_)
          refine lv_iinc (v := nI (j1 + 1)) (lv' := [(3, .int (nI (j1 + 1))), (2, .int (x2_1 ||| ((1 : Int32) <<< ((nI j1) &&& 31)))), (0, .ref yk), (1, .int (nI nw))]) (pc := 26) hx hb dX1_peopleOfNews_26 hl (k := 1) rfl (nI_add j1 1) (by decide) rfl (fun ls hl => ?_)
          refine lv_goto (tgt := 4) (pc := 29) hx hb dX1_peopleOfNews_29 rfl ?_
          exact ih1 (j1 + 1) (x2_1 ||| ((1 : Int32) <<< ((nI j1) &&& 31))) (by omega) (by omega) (by rw [L1_X1_peopleOfNews, ← hst1]; exact (show L1_X1_peopleOfNewss kN nw j1 x2_1 = x2_1 ||| ((1 : Int32) <<< ((nI j1) &&& 31)) from by rw [L1_X1_peopleOfNewss, if_neg c6]).symm) _ _ _ hW (lv_sub hl [0, 1, 2, 3] rfl)
  exact loop1 (7 + 1) 0 (0 : Int32) (by omega) (by omega) rfl _ _ _ hW (lv_sub hl [0, 1, 2, 3] rfl)

def F_X1_whoKnows (kN : Nat → Int32) (nw : Nat) : Int32 := F_X1_peopleOfNews kN nw
set_option maxHeartbeats 4000000 in
set_option maxRecDepth 100000 in
theorem K_X1_whoKnows (l : Launch) (g : GG) (y0 : Nat) (yk : Nat) (yt : Nat) (yd : Int32) (yu : Int64) (yb : Int64) (kN : Nat → Int32) (tO : Nat → Int32) (nw : Nat) (hnw : nw < 4) : MetI l g yX1_whoKnows cX1_whoKnows 2 (some .int) 2 0 0 [.ref y0, .int (nI nw)] [(y0, .inr (1, [.ref yk, .ref yt, .int yd, .long yu, .long yb])), (yk, .inl (g.2.1 1, 7, .inl kN)), (yt, .inl (g.2.1 1, 7, .inl tO))] (fun r u => r = (F_X1_whoKnows kN nw) ∧ u = [(y0, .inr (1, [.ref yk, .ref yt, .int yd, .long yu, .long yb])), (yk, .inl (g.2.1 1, 7, .inl kN)), (yt, .inl (g.2.1 1, 7, .inl tO))]) := by
  refine MetI.of (own := RX1) rfl (by decide) (Nat.le_of_ble_eq_true rfl) ?_
  intro p e s m below meth c A ls args Q hQ X hr hin hW hl
  have hx := X.1
  have hb := X.2.1
  have hl : lv_has ls 2 [(0, .ref y0), (1, .int (nI nw))] := hl
  refine lv_aload_n (pc := 0) hx hb dX1_whoKnows_0 rfl (lv_at hl 0 rfl) ?_
  refine r_get X hW 0 ciX1 0 rfl (by decide) m_58 rfl rfl dX1_whoKnows_1 ?_
  refine lv_iload_n (pc := 4) hx hb dX1_whoKnows_4 rfl (lv_at hl 1 rfl) ?_
  refine c_Si (pc := 5) (As := [.ref yk, .int (nI nw)]) (rest := []) (wr := [(y0, .inr (1, [.ref yk, .ref yt, .int yd, .long yu, .long yb])), (yt, .inl (g.2.1 1, 7, .inl tO))]) X hW (K_X1_peopleOfNews l g yk kN nw (by omega)) vX1_87 [1] [0, 2] rfl rfl rfl rfl rfl rfl hl.1 rfl (Nat.le_of_ble_eq_true rfl) ⟨Nat.le_of_ble_eq_true rfl, Nat.le_of_ble_eq_true rfl⟩ ⟨Nat.le_of_ble_eq_true rfl, Nat.le_of_ble_eq_true rfl⟩ dX1_whoKnows_5 (fun r1 u9 H locs hq hW => ?_)
  obtain ⟨rfl, rfl⟩ := hq
  have hW : WD g A s _ _ [(y0, .inr (1, [.ref yk, .ref yt, .int yd, .long yu, .long yb])), (yt, .inl (g.2.1 1, 7, .inl tO)), (yk, .inl (g.2.1 1, 7, .inl kN))] := hW
  have hF : F_X1_whoKnows kN nw = F_X1_peopleOfNews kN nw := show F_X1_whoKnows kN nw = F_X1_peopleOfNews kN nw from rfl
  exact e_i (u := [(y0, .inr (1, [.ref yk, .ref yt, .int yd, .long yu, .long yb])), (yk, .inl (g.2.1 1, 7, .inl kN)), (yt, .inl (g.2.1 1, 7, .inl tO))]) X hQ hr (hW) [0, 2, 1] rfl rfl (⟨hF.symm, rfl⟩) ⟨Nat.le_of_ble_eq_true rfl, Nat.le_of_ble_eq_true rfl⟩ dX1_whoKnows_8

def L1_X11_lowestOf (s_ : Int32) : Nat → Nat → Int32
  | 0, _ => (0)
  | m_ + 1, j1 => if 7 ≤ nI j1 then ((-1 : Int32)) else (if hasv s_ (nI j1) = 0 then (L1_X11_lowestOf s_ m_ (j1 + 1) ) else (nI j1))
def F_X11_lowestOf (s_ : Int32) : Int32 := L1_X11_lowestOf s_ (7 + 1) 0 
set_option maxHeartbeats 4000000 in
set_option maxRecDepth 100000 in
theorem K_X11_lowestOf (l : Launch) (g : GG) (s_ : Int32)  : MetI l g yX11_lowestOf cX11_lowestOf 2 (some .int) 1 0 0 [.int s_] [] (fun r u => r = (F_X11_lowestOf s_) ∧ u = []) := by
  refine MetI.of (own := RX11) rfl (by decide) (Nat.le_of_ble_eq_true rfl) ?_
  intro p e s m below meth c A ls args Q hQ X hr hin hW hl
  have hx := X.1
  have hb := X.2.1
  have hl : lv_has ls 2 [(0, .int s_)] := hl
  refine lv_iconst (v := 0) (pc := 0) hx hb dX11_lowestOf_0 (by decide) ?_
  refine lv_istore_n (lv' := [(1, .int 0), (0, .int s_)]) (pc := 1) hx hb dX11_lowestOf_1 rfl hl (by decide) rfl (fun ls hl => ?_)
  have loop1 : ∀ (fu1 : Nat) (j1 : Nat), (7 < fu1 + j1) → (j1 ≤ 7) → (L1_X11_lowestOf s_ fu1 j1 = F_X11_lowestOf s_) → ∀ (H : Heap) (locs : List Loc) (ls : Array Slot), WD g A s H locs [] → lv_has ls 2 [(1, .int (nI j1)), (0, .int s_)] → W p l e (RM 1 0 0) s m args below meth c H locs 0 0 Q (F0 m 2 ls []) := by
    intro fu1
    induction fu1 with
    | zero =>
      intro j1 hm1 hj1 hst1
      exact absurd hm1 (by omega)
    | succ fu1 ih1 =>
      intro j1 hm1 hj1 hst1 H locs ls hW hl
      refine lv_iload_n (pc := 2) hx hb dX11_lowestOf_2 rfl (lv_at hl 0 rfl) ?_
      refine lv_bipush (v := 7) (pc := 3) hx hb dX11_lowestOf_3 (by decide) ?_
      refine lv_icmp_ge (tgt := 24) (pc := 5) hx hb dX11_lowestOf_5 rfl (fun c1 => ?_) (fun c1 => ?_)
      · have h2 : 7 ≤ j1 := (nI_leI (a := 7) (b := j1) (by omega) (by omega)).mp c1
        refine lv_iconst (v := (-1)) (pc := 24) hx hb dX11_lowestOf_24 (by decide) ?_
        have hF : F_X11_lowestOf s_ = (-1 : Int32) := hst1.symm.trans (show L1_X11_lowestOf s_ (fu1 + 1) j1 = (-1 : Int32) from by rw [L1_X11_lowestOf, if_pos c1])
        exact e_i (u := []) X hQ hr (hW) [] rfl rfl (⟨hF.symm, rfl⟩) ⟨Nat.le_of_ble_eq_true rfl, Nat.le_of_ble_eq_true rfl⟩ dX11_lowestOf_25
      · have h3 : ¬ (7 ≤ j1) := fun q => c1 ((nI_leI (a := 7) (b := j1) (by omega) (by omega)).mpr q)
        refine lv_iload_n (pc := 8) hx hb dX11_lowestOf_8 rfl (lv_at hl 1 rfl) ?_
        refine lv_iload_n (pc := 9) hx hb dX11_lowestOf_9 rfl (lv_at hl 0 rfl) ?_
        refine c_Si (pc := 10) (As := [.int s_, .int (nI j1)]) (rest := []) (wr := []) X hW (C_X11_has l g s_ (nI j1)) vX11_148 [] [] rfl rfl rfl rfl rfl rfl hl.1 rfl (Nat.le_of_ble_eq_true rfl) ⟨Nat.le_of_ble_eq_true rfl, Nat.le_of_ble_eq_true rfl⟩ ⟨Nat.le_of_ble_eq_true rfl, Nat.le_of_ble_eq_true rfl⟩ dX11_lowestOf_10 (fun r4 u9 H locs hq hW => ?_)
        obtain ⟨rfl, rfl⟩ := hq
        have hW : WD g A s _ _ [] := hW
        refine lv_if_eq (tgt := 18) (pc := 13) hx hb dX11_lowestOf_13 rfl (fun c5 => ?_) (fun c5 => ?_)
        · refine lv_iinc (v := nI (j1 + 1)) (lv' := [(1, .int (nI (j1 + 1))), (0, .int s_)]) (pc := 18) hx hb dX11_lowestOf_18 hl (k := 0) rfl (nI_add j1 1) (by decide) rfl (fun ls hl => ?_)
          refine lv_goto (tgt := 2) (pc := 21) hx hb dX11_lowestOf_21 rfl ?_
          exact ih1 (j1 + 1)  (by omega) (by omega) ((show L1_X11_lowestOf s_ (fu1 + 1) j1 = L1_X11_lowestOf s_ fu1 (j1 + 1)  from by rw [L1_X11_lowestOf, if_neg c1, if_pos c5]).symm.trans hst1) _ _ _ hW (lv_sub hl [0, 1] rfl)
        · refine lv_iload_n (pc := 16) hx hb dX11_lowestOf_16 rfl (lv_at hl 0 rfl) ?_
          have hF : F_X11_lowestOf s_ = nI j1 := hst1.symm.trans (show L1_X11_lowestOf s_ (fu1 + 1) j1 = nI j1 from by rw [L1_X11_lowestOf, if_neg c1, if_neg c5])
          exact e_i (u := []) X hQ hr (hW) [] rfl rfl (⟨hF.symm, rfl⟩) ⟨Nat.le_of_ble_eq_true rfl, Nat.le_of_ble_eq_true rfl⟩ dX11_lowestOf_17
  exact loop1 (7 + 1) 0  (by omega) (by omega) (show F_X11_lowestOf s_ = L1_X11_lowestOf s_ (7 + 1) 0  from rfl).symm _ _ _ hW (lv_sub hl [0, 1] rfl)

def F_X11_fits0  : Int32 := (-1 : Int32)
set_option maxHeartbeats 4000000 in
set_option maxRecDepth 100000 in
theorem K_X11_fits0 (l : Launch) (g : GG) (h0 : Nat) (a0 : Nat) (a1 : Nat) (a2 : Nat) (a3 : Nat) (a4 : Nat) (a5 : Nat) (a6 : Nat) (a7 : Nat) (a8 : Nat) (a9 : Nat) (a10 : Nat) (nv : Nat) (np : Nat) (cc : Int32) (fB : Nat → Option Nat) (x : Int32) (y : Int32) (hbad : x < 0 ∨ nI np ≤ x) : MetI l g yX11_fits cX11_fits 8 (some .int) 1 0 0 [.ref h0, .int x, .int y] [(h0, .inr (11, [.ref a0, .ref a1, .ref a2, .ref a3, .ref a4, .ref a5, .ref a6, .ref a7, .ref a8, .ref a9, .ref a10, .int (nI nv), .int (nI np), .int cc])), (a2, .inl (g.2.1 5, 12, .inr (.inr (.inr (.inr fB)))))] (fun r u => r = F_X11_fits0 ∧ u = [(h0, .inr (11, [.ref a0, .ref a1, .ref a2, .ref a3, .ref a4, .ref a5, .ref a6, .ref a7, .ref a8, .ref a9, .ref a10, .int (nI nv), .int (nI np), .int cc])), (a2, .inl (g.2.1 5, 12, .inr (.inr (.inr (.inr fB)))))]) := by
  refine MetI.of (own := RX11) rfl (by decide) (Nat.le_of_ble_eq_true rfl) ?_
  intro p e s m below meth c A ls args Q hQ X hr hin hW hl
  have hx := X.1
  have hb := X.2.1
  have hl : lv_has ls 8 [(0, .ref h0), (1, .int x), (2, .int y)] := hl
  refine lv_aload_n (pc := 0) hx hb dX11_fits_0 rfl (lv_at hl 0 rfl) ?_
  refine lv_iload_n (pc := 1) hx hb dX11_fits_1 rfl (lv_at hl 1 rfl) ?_
  refine c_Vq (pc := 2) (As := [.int x]) (rest := []) (wr := []) X hW 0 ciX11 rfl (C_X11_planAt0 l g h0 a0 a1 a2 a3 a4 a5 a6 a7 a8 a9 a10 nv np cc fB x hbad) vX11_157 [0, 1] [] rfl rfl rfl rfl rfl rfl hl.1 rfl (Nat.le_of_ble_eq_true rfl) ⟨Nat.le_of_ble_eq_true rfl, Nat.le_of_ble_eq_true rfl⟩ ⟨Nat.le_of_ble_eq_true rfl, Nat.le_of_ble_eq_true rfl⟩ dX11_fits_2 (fun r1 u9 H locs hq hW => ?_)
  obtain ⟨rfl, rfl⟩ := hq
  have hW : WD g A s _ _ [(h0, .inr (11, [.ref a0, .ref a1, .ref a2, .ref a3, .ref a4, .ref a5, .ref a6, .ref a7, .ref a8, .ref a9, .ref a10, .int (nI nv), .int (nI np), .int cc])), (a2, .inl (g.2.1 5, 12, .inr (.inr (.inr (.inr fB)))))] := hW
  refine lv_astore_nN (lv' := [(3, .null), (0, .ref h0), (1, .int x), (2, .int y)]) (pc := 5) hx hb dX11_fits_5 rfl hl (by decide) rfl (fun ls hl => ?_)
  refine lv_aload_nN (pc := 6) hx hb dX11_fits_6 rfl (lv_at hl 0 rfl) ?_
  refine lv_ifnullN (tgt := 17) (pc := 7) hx hb dX11_fits_7 rfl ?_
  refine lv_iconst (v := (-1)) (pc := 17) hx hb dX11_fits_17 (by decide) ?_
  have hF : F_X11_fits0 = (-1 : Int32) := show F_X11_fits0 = (-1 : Int32) from rfl
  exact e_i (u := [(h0, .inr (11, [.ref a0, .ref a1, .ref a2, .ref a3, .ref a4, .ref a5, .ref a6, .ref a7, .ref a8, .ref a9, .ref a10, .int (nI nv), .int (nI np), .int cc])), (a2, .inl (g.2.1 5, 12, .inr (.inr (.inr (.inr fB)))))]) X hQ hr (hW) [0, 1] rfl rfl (⟨hF.symm, rfl⟩) ⟨Nat.le_of_ble_eq_true rfl, Nat.le_of_ble_eq_true rfl⟩ dX11_fits_18

theorem nw_at {x : Int32} (h : ¬ F_X11_isNews x = 0) : x = nI (tN x) ∧ tN x < 4 := by
  unfold F_X11_isNews at h
  by_cases h1 : x < 0
  · rw [if_pos h1] at h; exact absurd rfl h
  · rw [if_neg h1] at h
    by_cases h2 : (4 : Int32) ≤ x
    · rw [if_pos h2] at h; exact absurd rfl h
    · exact tN_in (n := 4) (by omega) (Int32.not_lt.mp h1) (Int32.not_le.mp h2)
def L1_X11_fits1s (pc : Nat) (pe : Nat) (de : Int32) (pH : Nat → Int32) (pK : Nat → Int32) (pA : Nat → Int32) (pB : Nat → Int32) (oE : Nat → Int32) (k6 : Nat → Int32) (k8 : Nat → Int32) (K : Nat → Int32) (ta : Nat → Int32) (y : Int32) (j1 : Nat) (x5_1 : Int32) (x4_1 : Int32) (fq5_1 : Nat → Int32) (fq6_1 : Nat → Int32) (fyk_1 : Nat → Int32) (fyt_1 : Nat → Int32) (y2_1 : Int32) (y3_1 : Int64) : Int32 × Int32 × (Nat → Int32) × (Nat → Int32) × (Nat → Int32) × (Nat → Int32) × Int32 × Int64 := (x5_1 ||| ((x4_1 &&& (F_X1_whoKnows ((F_X1_carryAll fyk_1 fyt_1 pc de (nI j1) pH pK pA pB oE fq5_1 fq6_1 k6 k8 K).1) (tN y))) &&& ((F_X10_whoseTaleIs pe (tN y) (nI j1) ta) ^^^ (-1 : Int32))), x4_1 &&& ((x4_1 &&& (F_X1_whoKnows ((F_X1_carryAll fyk_1 fyt_1 pc de (nI j1) pH pK pA pB oE fq5_1 fq6_1 k6 k8 K).1) (tN y))) ^^^ (-1 : Int32)), ((F_X1_carryAll fyk_1 fyt_1 pc de (nI j1) pH pK pA pB oE fq5_1 fq6_1 k6 k8 K).2.2.2.2.1), ((F_X1_carryAll fyk_1 fyt_1 pc de (nI j1) pH pK pA pB oE fq5_1 fq6_1 k6 k8 K).2.2.2.2.2), ((F_X1_carryAll fyk_1 fyt_1 pc de (nI j1) pH pK pA pB oE fq5_1 fq6_1 k6 k8 K).1), ((F_X1_carryAll fyk_1 fyt_1 pc de (nI j1) pH pK pA pB oE fq5_1 fq6_1 k6 k8 K).2.1), ((F_X1_carryAll fyk_1 fyt_1 pc de (nI j1) pH pK pA pB oE fq5_1 fq6_1 k6 k8 K).2.2.1), ((F_X1_carryAll fyk_1 fyt_1 pc de (nI j1) pH pK pA pB oE fq5_1 fq6_1 k6 k8 K).2.2.2.1))
def L1_X11_fits1 (pc : Nat) (pe : Nat) (de : Int32) (pH : Nat → Int32) (pK : Nat → Int32) (pA : Nat → Int32) (pB : Nat → Int32) (oE : Nat → Int32) (k6 : Nat → Int32) (k8 : Nat → Int32) (K : Nat → Int32) (ta : Nat → Int32) (y : Int32) (i0_ : Int32) (i1_ : Int32) (i2_ : Nat → Int32) (i3_ : Nat → Int32) (i4_ : Nat → Int32) (i5_ : Nat → Int32) (i6_ : Int32) (i7_ : Int64) : Nat → Int32 × Int32 × (Nat → Int32) × (Nat → Int32) × (Nat → Int32) × (Nat → Int32) × Int32 × Int64
  | 0 => (i0_, i1_, i2_, i3_, i4_, i5_, i6_, i7_)
  | k_ + 1 => L1_X11_fits1s pc pe de pH pK pA pB oE k6 k8 K ta y k_ ((L1_X11_fits1 pc pe de pH pK pA pB oE k6 k8 K ta y i0_ i1_ i2_ i3_ i4_ i5_ i6_ i7_ k_).1) ((L1_X11_fits1 pc pe de pH pK pA pB oE k6 k8 K ta y i0_ i1_ i2_ i3_ i4_ i5_ i6_ i7_ k_).2.1) ((L1_X11_fits1 pc pe de pH pK pA pB oE k6 k8 K ta y i0_ i1_ i2_ i3_ i4_ i5_ i6_ i7_ k_).2.2.1) ((L1_X11_fits1 pc pe de pH pK pA pB oE k6 k8 K ta y i0_ i1_ i2_ i3_ i4_ i5_ i6_ i7_ k_).2.2.2.1) ((L1_X11_fits1 pc pe de pH pK pA pB oE k6 k8 K ta y i0_ i1_ i2_ i3_ i4_ i5_ i6_ i7_ k_).2.2.2.2.1) ((L1_X11_fits1 pc pe de pH pK pA pB oE k6 k8 K ta y i0_ i1_ i2_ i3_ i4_ i5_ i6_ i7_ k_).2.2.2.2.2.1) ((L1_X11_fits1 pc pe de pH pK pA pB oE k6 k8 K ta y i0_ i1_ i2_ i3_ i4_ i5_ i6_ i7_ k_).2.2.2.2.2.2.1) ((L1_X11_fits1 pc pe de pH pK pA pB oE k6 k8 K ta y i0_ i1_ i2_ i3_ i4_ i5_ i6_ i7_ k_).2.2.2.2.2.2.2)
def F_X11_fits1 (pc : Nat) (pe : Nat) (de : Int32) (yd : Int32) (yu : Int64) (kN : Nat → Int32) (tO : Nat → Int32) (pH : Nat → Int32) (pK : Nat → Int32) (pA : Nat → Int32) (pB : Nat → Int32) (oE : Nat → Int32) (pW : Nat → Int32) (pR : Nat → Int32) (k6 : Nat → Int32) (k8 : Nat → Int32) (K : Nat → Int32) (ta : Nat → Int32) (y : Int32) : Int32 × (Nat → Int32) × (Nat → Int32) × (Nat → Int32) × (Nat → Int32) × Int32 × Int64 := if F_X11_isNews y = 0 then (((-1 : Int32), pW, pR, kN, tO, yd, yu)) else (((F_X11_lowestOf (((L1_X11_fits1 pc pe de pH pK pA pB oE k6 k8 K ta y (0 : Int32) (F_X10_whoHasTale pe (tN y) ta) pW pR kN tO yd yu 25).1) ||| ((L1_X11_fits1 pc pe de pH pK pA pB oE k6 k8 K ta y (0 : Int32) (F_X10_whoHasTale pe (tN y) ta) pW pR kN tO yd yu 25).2.1))), ((L1_X11_fits1 pc pe de pH pK pA pB oE k6 k8 K ta y (0 : Int32) (F_X10_whoHasTale pe (tN y) ta) pW pR kN tO yd yu 25).2.2.1), ((L1_X11_fits1 pc pe de pH pK pA pB oE k6 k8 K ta y (0 : Int32) (F_X10_whoHasTale pe (tN y) ta) pW pR kN tO yd yu 25).2.2.2.1), ((L1_X11_fits1 pc pe de pH pK pA pB oE k6 k8 K ta y (0 : Int32) (F_X10_whoHasTale pe (tN y) ta) pW pR kN tO yd yu 25).2.2.2.2.1), ((L1_X11_fits1 pc pe de pH pK pA pB oE k6 k8 K ta y (0 : Int32) (F_X10_whoHasTale pe (tN y) ta) pW pR kN tO yd yu 25).2.2.2.2.2.1), ((L1_X11_fits1 pc pe de pH pK pA pB oE k6 k8 K ta y (0 : Int32) (F_X10_whoHasTale pe (tN y) ta) pW pR kN tO yd yu 25).2.2.2.2.2.2.1), ((L1_X11_fits1 pc pe de pH pK pA pB oE k6 k8 K ta y (0 : Int32) (F_X10_whoHasTale pe (tN y) ta) pW pR kN tO yd yu 25).2.2.2.2.2.2.2)))
set_option maxHeartbeats 4000000 in
set_option maxRecDepth 100000 in
theorem K_X11_fits1 (l : Launch) (g : GG) (h0 : Nat) (a0 : Nat) (a1 : Nat) (a2 : Nat) (a3 : Nat) (a4 : Nat) (a5 : Nat) (a6 : Nat) (a7 : Nat) (a8 : Nat) (a9 : Nat) (a10 : Nat) (nv : Nat) (np : Nat) (cc : Int32) (fB : Nat → Option Nat) (i : Nat) (q : Nat) (q0 : Nat) (q1 : Nat) (q2 : Nat) (q3 : Nat) (q4 : Nat) (q5 : Nat) (q6 : Nat) (pc : Nat) (v : Nat) (v3 : Nat) (v4 : Nat) (v5 : Nat) (v6 : Nat) (v7 : Nat) (v8 : Nat) (v9 : Nat) (v10 : Nat) (v11 : Nat) (v12 : Nat) (v13 : Nat) (v15 : Nat) (pe : Nat) (lc : Int32) (de : Int32) (gl : Int32) (yk : Nat) (yt : Nat) (yd : Int32) (yu : Int64) (yb : Int64) (kN : Nat → Int32) (tO : Nat → Int32) (pH : Nat → Int32) (pK : Nat → Int32) (pA : Nat → Int32) (pB : Nat → Int32) (oE : Nat → Int32) (pW : Nat → Int32) (pR : Nat → Int32) (k6 : Nat → Int32) (k8 : Nat → Int32) (K : Nat → Int32) (ta : Nat → Int32) (y : Int32) (hi : i < np) (hnp : np ≤ 12) (hA : fB i = some q) (hp40 : pc ≤ 40) (hoe : ∀ j : Nat, j < 40 → oE j = nI (tN (oE j)) ∧ tN (oE j) < 40) (hH : ∀ j : Nat, j < 40 → pH j = nI (tN (pH j)) ∧ tN (pH j) ≤ 24) (hCa : ∀ j : Nat, j < 40 → pA j = nI (tN (pA j)) ∧ tN (pA j) < 7) (hB : ∀ j : Nat, j < pc → ¬ pK (tN (oE j)) = 3 → pB (tN (oE j)) = nI (tN (pB (tN (oE j)))) ∧ tN (pB (tN (oE j))) < 7) (hpe : pe ≤ 7) : MetI l g yX11_fits cX11_fits 8 (some .int) 6 0 0 [.ref h0, .int (nI i), .int y] [(h0, .inr (11, [.ref a0, .ref a1, .ref a2, .ref a3, .ref a4, .ref a5, .ref a6, .ref a7, .ref a8, .ref a9, .ref a10, .int (nI nv), .int (nI np), .int cc])), (a2, .inl (g.2.1 5, 12, .inr (.inr (.inr (.inr fB))))), (a3, .inr (1, [.ref yk, .ref yt, .int yd, .long yu, .long yb])), (yk, .inl (g.2.1 1, 7, .inl kN)), (yt, .inl (g.2.1 1, 7, .inl tO)), (q, .inr (4, [.ref v, .int (nI pc), .ref q0, .ref q1, .ref q2, .ref q3, .ref q4, .ref q5, .ref q6])), (q0, .inl (g.2.1 1, 40, .inl pH)), (q1, .inl (g.2.1 1, 40, .inl pK)), (q2, .inl (g.2.1 1, 40, .inl pA)), (q3, .inl (g.2.1 1, 40, .inl pB)), (q4, .inl (g.2.1 1, 40, .inl oE)), (q5, .inl (g.2.1 1, 40, .inl pW)), (q6, .inl (g.2.1 1, 40, .inl pR)), (v, .inr (10, [.int (nI pe), .int lc, .int de, .ref v3, .ref v4, .ref v5, .ref v6, .ref v7, .ref v8, .ref v9, .ref v10, .ref v11, .ref v12, .ref v13, .int gl, .ref v15])), (v6, .inl (g.2.1 1, 7, .inl k6)), (v8, .inl (g.2.1 1, 7, .inl k8)), (v10, .inl (g.2.1 1, 175, .inl K)), (v13, .inl (g.2.1 1, 28, .inl ta))] (fun r u => r = (F_X11_fits1 pc pe de yd yu kN tO pH pK pA pB oE pW pR k6 k8 K ta y).1 ∧ u = [(h0, .inr (11, [.ref a0, .ref a1, .ref a2, .ref a3, .ref a4, .ref a5, .ref a6, .ref a7, .ref a8, .ref a9, .ref a10, .int (nI nv), .int (nI np), .int cc])), (a2, .inl (g.2.1 5, 12, .inr (.inr (.inr (.inr fB))))), (a3, .inr (1, [.ref yk, .ref yt, .int ((F_X11_fits1 pc pe de yd yu kN tO pH pK pA pB oE pW pR k6 k8 K ta y).2.2.2.2.2.1), .long ((F_X11_fits1 pc pe de yd yu kN tO pH pK pA pB oE pW pR k6 k8 K ta y).2.2.2.2.2.2), .long yb])), (yk, .inl (g.2.1 1, 7, .inl ((F_X11_fits1 pc pe de yd yu kN tO pH pK pA pB oE pW pR k6 k8 K ta y).2.2.2.1))), (yt, .inl (g.2.1 1, 7, .inl ((F_X11_fits1 pc pe de yd yu kN tO pH pK pA pB oE pW pR k6 k8 K ta y).2.2.2.2.1))), (q, .inr (4, [.ref v, .int (nI pc), .ref q0, .ref q1, .ref q2, .ref q3, .ref q4, .ref q5, .ref q6])), (q0, .inl (g.2.1 1, 40, .inl pH)), (q1, .inl (g.2.1 1, 40, .inl pK)), (q2, .inl (g.2.1 1, 40, .inl pA)), (q3, .inl (g.2.1 1, 40, .inl pB)), (q4, .inl (g.2.1 1, 40, .inl oE)), (q5, .inl (g.2.1 1, 40, .inl ((F_X11_fits1 pc pe de yd yu kN tO pH pK pA pB oE pW pR k6 k8 K ta y).2.1))), (q6, .inl (g.2.1 1, 40, .inl ((F_X11_fits1 pc pe de yd yu kN tO pH pK pA pB oE pW pR k6 k8 K ta y).2.2.1))), (v, .inr (10, [.int (nI pe), .int lc, .int de, .ref v3, .ref v4, .ref v5, .ref v6, .ref v7, .ref v8, .ref v9, .ref v10, .ref v11, .ref v12, .ref v13, .int gl, .ref v15])), (v6, .inl (g.2.1 1, 7, .inl k6)), (v8, .inl (g.2.1 1, 7, .inl k8)), (v10, .inl (g.2.1 1, 175, .inl K)), (v13, .inl (g.2.1 1, 28, .inl ta))]) := by
  refine MetI.of (own := RX11) rfl (by decide) (Nat.le_of_ble_eq_true rfl) ?_
  intro p e s m below meth c A ls args Q hQ X hr hin hW hl
  have hx := X.1
  have hb := X.2.1
  have hl : lv_has ls 8 [(0, .ref h0), (1, .int (nI i)), (2, .int y)] := hl
  refine lv_aload_n (pc := 0) hx hb dX11_fits_0 rfl (lv_at hl 0 rfl) ?_
  refine lv_iload_n (pc := 1) hx hb dX11_fits_1 rfl (lv_at hl 1 rfl) ?_
  refine c_Vq (pc := 2) (As := [.int (nI i)]) (rest := []) (wr := [(a3, .inr (1, [.ref yk, .ref yt, .int yd, .long yu, .long yb])), (yk, .inl (g.2.1 1, 7, .inl kN)), (yt, .inl (g.2.1 1, 7, .inl tO)), (q, .inr (4, [.ref v, .int (nI pc), .ref q0, .ref q1, .ref q2, .ref q3, .ref q4, .ref q5, .ref q6])), (q0, .inl (g.2.1 1, 40, .inl pH)), (q1, .inl (g.2.1 1, 40, .inl pK)), (q2, .inl (g.2.1 1, 40, .inl pA)), (q3, .inl (g.2.1 1, 40, .inl pB)), (q4, .inl (g.2.1 1, 40, .inl oE)), (q5, .inl (g.2.1 1, 40, .inl pW)), (q6, .inl (g.2.1 1, 40, .inl pR)), (v, .inr (10, [.int (nI pe), .int lc, .int de, .ref v3, .ref v4, .ref v5, .ref v6, .ref v7, .ref v8, .ref v9, .ref v10, .ref v11, .ref v12, .ref v13, .int gl, .ref v15])), (v6, .inl (g.2.1 1, 7, .inl k6)), (v8, .inl (g.2.1 1, 7, .inl k8)), (v10, .inl (g.2.1 1, 175, .inl K)), (v13, .inl (g.2.1 1, 28, .inl ta))]) X hW 0 ciX11 rfl (C_X11_planAt1 l g h0 a0 a1 a2 a3 a4 a5 a6 a7 a8 a9 a10 nv np cc fB i q (by omega) (by omega) hA) vX11_157 [0, 1] [2, 3, 4, 5, 6, 7, 8, 9, 10, 11, 12, 13, 14, 15, 16, 17] rfl rfl rfl rfl rfl rfl hl.1 rfl (Nat.le_of_ble_eq_true rfl) ⟨Nat.le_of_ble_eq_true rfl, Nat.le_of_ble_eq_true rfl⟩ ⟨Nat.le_of_ble_eq_true rfl, Nat.le_of_ble_eq_true rfl⟩ dX11_fits_2 (fun r1 u9 H locs hq hW => ?_)
  obtain ⟨rfl, rfl⟩ := hq
  have hW : WD g A s _ _ [(a3, .inr (1, [.ref yk, .ref yt, .int yd, .long yu, .long yb])), (yk, .inl (g.2.1 1, 7, .inl kN)), (yt, .inl (g.2.1 1, 7, .inl tO)), (q, .inr (4, [.ref v, .int (nI pc), .ref q0, .ref q1, .ref q2, .ref q3, .ref q4, .ref q5, .ref q6])), (q0, .inl (g.2.1 1, 40, .inl pH)), (q1, .inl (g.2.1 1, 40, .inl pK)), (q2, .inl (g.2.1 1, 40, .inl pA)), (q3, .inl (g.2.1 1, 40, .inl pB)), (q4, .inl (g.2.1 1, 40, .inl oE)), (q5, .inl (g.2.1 1, 40, .inl pW)), (q6, .inl (g.2.1 1, 40, .inl pR)), (v, .inr (10, [.int (nI pe), .int lc, .int de, .ref v3, .ref v4, .ref v5, .ref v6, .ref v7, .ref v8, .ref v9, .ref v10, .ref v11, .ref v12, .ref v13, .int gl, .ref v15])), (v6, .inl (g.2.1 1, 7, .inl k6)), (v8, .inl (g.2.1 1, 7, .inl k8)), (v10, .inl (g.2.1 1, 175, .inl K)), (v13, .inl (g.2.1 1, 28, .inl ta)), (h0, .inr (11, [.ref a0, .ref a1, .ref a2, .ref a3, .ref a4, .ref a5, .ref a6, .ref a7, .ref a8, .ref a9, .ref a10, .int (nI nv), .int (nI np), .int cc])), (a2, .inl (g.2.1 5, 12, .inr (.inr (.inr (.inr fB)))))] := hW
  refine lv_astore_n (lv' := [(3, .ref q), (0, .ref h0), (1, .int (nI i)), (2, .int y)]) (pc := 5) hx hb dX11_fits_5 rfl hl (by decide) rfl (fun ls hl => ?_)
  refine lv_aload_n (pc := 6) hx hb dX11_fits_6 rfl (lv_at hl 0 rfl) ?_
  refine lv_ifnull (pc := 7) hx hb dX11_fits_7 ?_
  refine lv_iload_n (pc := 10) hx hb dX11_fits_10 rfl (lv_at hl 3 rfl) ?_
  refine c_Si (pc := 11) (As := [.int y]) (rest := []) (wr := [(a3, .inr (1, [.ref yk, .ref yt, .int yd, .long yu, .long yb])), (yk, .inl (g.2.1 1, 7, .inl kN)), (yt, .inl (g.2.1 1, 7, .inl tO)), (q, .inr (4, [.ref v, .int (nI pc), .ref q0, .ref q1, .ref q2, .ref q3, .ref q4, .ref q5, .ref q6])), (q0, .inl (g.2.1 1, 40, .inl pH)), (q1, .inl (g.2.1 1, 40, .inl pK)), (q2, .inl (g.2.1 1, 40, .inl pA)), (q3, .inl (g.2.1 1, 40, .inl pB)), (q4, .inl (g.2.1 1, 40, .inl oE)), (q5, .inl (g.2.1 1, 40, .inl pW)), (q6, .inl (g.2.1 1, 40, .inl pR)), (v, .inr (10, [.int (nI pe), .int lc, .int de, .ref v3, .ref v4, .ref v5, .ref v6, .ref v7, .ref v8, .ref v9, .ref v10, .ref v11, .ref v12, .ref v13, .int gl, .ref v15])), (v6, .inl (g.2.1 1, 7, .inl k6)), (v8, .inl (g.2.1 1, 7, .inl k8)), (v10, .inl (g.2.1 1, 175, .inl K)), (v13, .inl (g.2.1 1, 28, .inl ta)), (h0, .inr (11, [.ref a0, .ref a1, .ref a2, .ref a3, .ref a4, .ref a5, .ref a6, .ref a7, .ref a8, .ref a9, .ref a10, .int (nI nv), .int (nI np), .int cc])), (a2, .inl (g.2.1 5, 12, .inr (.inr (.inr (.inr fB)))))]) X hW (K_X11_isNews l g y) vX11_208 [] [0, 1, 2, 3, 4, 5, 6, 7, 8, 9, 10, 11, 12, 13, 14, 15, 16, 17] rfl rfl rfl rfl rfl rfl hl.1 rfl (Nat.le_of_ble_eq_true rfl) ⟨Nat.le_of_ble_eq_true rfl, Nat.le_of_ble_eq_true rfl⟩ ⟨Nat.le_of_ble_eq_true rfl, Nat.le_of_ble_eq_true rfl⟩ dX11_fits_11 (fun r2 u9 H locs hq hW => ?_)
  obtain ⟨rfl, rfl⟩ := hq
  have hW : WD g A s _ _ [(a3, .inr (1, [.ref yk, .ref yt, .int yd, .long yu, .long yb])), (yk, .inl (g.2.1 1, 7, .inl kN)), (yt, .inl (g.2.1 1, 7, .inl tO)), (q, .inr (4, [.ref v, .int (nI pc), .ref q0, .ref q1, .ref q2, .ref q3, .ref q4, .ref q5, .ref q6])), (q0, .inl (g.2.1 1, 40, .inl pH)), (q1, .inl (g.2.1 1, 40, .inl pK)), (q2, .inl (g.2.1 1, 40, .inl pA)), (q3, .inl (g.2.1 1, 40, .inl pB)), (q4, .inl (g.2.1 1, 40, .inl oE)), (q5, .inl (g.2.1 1, 40, .inl pW)), (q6, .inl (g.2.1 1, 40, .inl pR)), (v, .inr (10, [.int (nI pe), .int lc, .int de, .ref v3, .ref v4, .ref v5, .ref v6, .ref v7, .ref v8, .ref v9, .ref v10, .ref v11, .ref v12, .ref v13, .int gl, .ref v15])), (v6, .inl (g.2.1 1, 7, .inl k6)), (v8, .inl (g.2.1 1, 7, .inl k8)), (v10, .inl (g.2.1 1, 175, .inl K)), (v13, .inl (g.2.1 1, 28, .inl ta)), (h0, .inr (11, [.ref a0, .ref a1, .ref a2, .ref a3, .ref a4, .ref a5, .ref a6, .ref a7, .ref a8, .ref a9, .ref a10, .int (nI nv), .int (nI np), .int cc])), (a2, .inl (g.2.1 5, 12, .inr (.inr (.inr (.inr fB)))))] := hW
  refine lv_if_ne (tgt := 19) (pc := 14) hx hb dX11_fits_14 rfl (fun c3 => ?_) (fun c3 => ?_)
  · have hnq := nw_at c3
    have hnq2 := hnq.2
    rw [hnq.1] at hl
    refine lv_aload_n (pc := 19) hx hb dX11_fits_19 rfl (lv_at hl 0 rfl) ?_
    refine r_getN X hW 3 ciX4 0 rfl (by decide) m_568 rfl rfl dX11_fits_20 ?_
    refine lv_iload_n (pc := 23) hx hb dX11_fits_23 rfl (lv_at hl 3 rfl) ?_
    refine c_Vi (pc := 24) (As := [.int (nI (tN y))]) (rest := []) (wr := [(a3, .inr (1, [.ref yk, .ref yt, .int yd, .long yu, .long yb])), (yk, .inl (g.2.1 1, 7, .inl kN)), (yt, .inl (g.2.1 1, 7, .inl tO)), (q, .inr (4, [.ref v, .int (nI pc), .ref q0, .ref q1, .ref q2, .ref q3, .ref q4, .ref q5, .ref q6])), (q0, .inl (g.2.1 1, 40, .inl pH)), (q1, .inl (g.2.1 1, 40, .inl pK)), (q2, .inl (g.2.1 1, 40, .inl pA)), (q3, .inl (g.2.1 1, 40, .inl pB)), (q4, .inl (g.2.1 1, 40, .inl oE)), (q5, .inl (g.2.1 1, 40, .inl pW)), (q6, .inl (g.2.1 1, 40, .inl pR)), (v6, .inl (g.2.1 1, 7, .inl k6)), (v8, .inl (g.2.1 1, 7, .inl k8)), (v10, .inl (g.2.1 1, 175, .inl K)), (h0, .inr (11, [.ref a0, .ref a1, .ref a2, .ref a3, .ref a4, .ref a5, .ref a6, .ref a7, .ref a8, .ref a9, .ref a10, .int (nI nv), .int (nI np), .int cc])), (a2, .inl (g.2.1 5, 12, .inr (.inr (.inr (.inr fB)))))]) X hW 11 ciX10 rfl (K_X10_whoHasTale l g v v3 v4 v5 v6 v7 v8 v9 v10 v11 v12 v13 v15 pe lc de gl (tN y) ta (by omega) (by omega)) vX11_316 [11, 15] [0, 1, 2, 3, 4, 5, 6, 7, 8, 9, 10, 12, 13, 14, 16, 17] rfl rfl rfl rfl rfl rfl hl.1 rfl (Nat.le_of_ble_eq_true rfl) ⟨Nat.le_of_ble_eq_true rfl, Nat.le_of_ble_eq_true rfl⟩ ⟨Nat.le_of_ble_eq_true rfl, Nat.le_of_ble_eq_true rfl⟩ dX11_fits_24 (fun r5 u9 H locs hq hW => ?_)
    obtain ⟨rfl, rfl⟩ := hq
    have hW : WD g A s _ _ [(a3, .inr (1, [.ref yk, .ref yt, .int yd, .long yu, .long yb])), (yk, .inl (g.2.1 1, 7, .inl kN)), (yt, .inl (g.2.1 1, 7, .inl tO)), (q, .inr (4, [.ref v, .int (nI pc), .ref q0, .ref q1, .ref q2, .ref q3, .ref q4, .ref q5, .ref q6])), (q0, .inl (g.2.1 1, 40, .inl pH)), (q1, .inl (g.2.1 1, 40, .inl pK)), (q2, .inl (g.2.1 1, 40, .inl pA)), (q3, .inl (g.2.1 1, 40, .inl pB)), (q4, .inl (g.2.1 1, 40, .inl oE)), (q5, .inl (g.2.1 1, 40, .inl pW)), (q6, .inl (g.2.1 1, 40, .inl pR)), (v6, .inl (g.2.1 1, 7, .inl k6)), (v8, .inl (g.2.1 1, 7, .inl k8)), (v10, .inl (g.2.1 1, 175, .inl K)), (h0, .inr (11, [.ref a0, .ref a1, .ref a2, .ref a3, .ref a4, .ref a5, .ref a6, .ref a7, .ref a8, .ref a9, .ref a10, .int (nI nv), .int (nI np), .int cc])), (a2, .inl (g.2.1 5, 12, .inr (.inr (.inr (.inr fB))))), (v, .inr (10, [.int (nI pe), .int lc, .int de, .ref v3, .ref v4, .ref v5, .ref v6, .ref v7, .ref v8, .ref v9, .ref v10, .ref v11, .ref v12, .ref v13, .int gl, .ref v15])), (v13, .inl (g.2.1 1, 28, .inl ta))] := hW
    refine lv_istore (lv' := [(4, .int (F_X10_whoHasTale pe (tN y) ta)), (3, .ref q), (0, .ref h0), (1, .int (nI i)), (2, .int (nI (tN y)))]) (pc := 27) hx hb dX11_fits_27 hl (by decide) rfl (fun ls hl => ?_)
    refine lv_iconst (v := 0) (pc := 29) hx hb dX11_fits_29 (by decide) ?_
    refine lv_istore (lv' := [(5, .int 0), (4, .int (F_X10_whoHasTale pe (tN y) ta)), (3, .ref q), (0, .ref h0), (1, .int (nI i)), (2, .int (nI (tN y)))]) (pc := 30) hx hb dX11_fits_30 hl (by decide) rfl (fun ls hl => ?_)
    refine lv_iconst (v := 0) (pc := 32) hx hb dX11_fits_32 (by decide) ?_
    refine lv_istore (lv' := [(6, .int 0), (5, .int 0), (4, .int (F_X10_whoHasTale pe (tN y) ta)), (3, .ref q), (0, .ref h0), (1, .int (nI i)), (2, .int (nI (tN y)))]) (pc := 33) hx hb dX11_fits_33 hl (by decide) rfl (fun ls hl => ?_)
    have loop1 : ∀ (fu1 : Nat) (j1 : Nat) (x5_1 : Int32) (x4_1 : Int32) (fq5_1 : Nat → Int32) (fq6_1 : Nat → Int32) (fyk_1 : Nat → Int32) (fyt_1 : Nat → Int32) (y2_1 : Int32) (y3_1 : Int64), (25 < fu1 + j1) → (j1 ≤ 25) → ((x5_1, x4_1, fq5_1, fq6_1, fyk_1, fyt_1, y2_1, y3_1) = L1_X11_fits1 pc pe de pH pK pA pB oE k6 k8 K ta y (0 : Int32) (F_X10_whoHasTale pe (tN y) ta) pW pR kN tO yd yu j1) → ∀ (H : Heap) (locs : List Loc) (ls : Array Slot), WD g A s H locs [(a3, .inr (1, [.ref yk, .ref yt, .int y2_1, .long y3_1, .long yb])), (yk, .inl (g.2.1 1, 7, .inl fyk_1)), (yt, .inl (g.2.1 1, 7, .inl fyt_1)), (q, .inr (4, [.ref v, .int (nI pc), .ref q0, .ref q1, .ref q2, .ref q3, .ref q4, .ref q5, .ref q6])), (q0, .inl (g.2.1 1, 40, .inl pH)), (q1, .inl (g.2.1 1, 40, .inl pK)), (q2, .inl (g.2.1 1, 40, .inl pA)), (q3, .inl (g.2.1 1, 40, .inl pB)), (q4, .inl (g.2.1 1, 40, .inl oE)), (q5, .inl (g.2.1 1, 40, .inl fq5_1)), (q6, .inl (g.2.1 1, 40, .inl fq6_1)), (v6, .inl (g.2.1 1, 7, .inl k6)), (v8, .inl (g.2.1 1, 7, .inl k8)), (v10, .inl (g.2.1 1, 175, .inl K)), (h0, .inr (11, [.ref a0, .ref a1, .ref a2, .ref a3, .ref a4, .ref a5, .ref a6, .ref a7, .ref a8, .ref a9, .ref a10, .int (nI nv), .int (nI np), .int cc])), (a2, .inl (g.2.1 5, 12, .inr (.inr (.inr (.inr fB))))), (v, .inr (10, [.int (nI pe), .int lc, .int de, .ref v3, .ref v4, .ref v5, .ref v6, .ref v7, .ref v8, .ref v9, .ref v10, .ref v11, .ref v12, .ref v13, .int gl, .ref v15])), (v13, .inl (g.2.1 1, 28, .inl ta))] → lv_has ls 8 [(6, .int (nI j1)), (5, .int x5_1), (4, .int x4_1), (3, .ref q), (0, .ref h0), (1, .int (nI i)), (2, .int (nI (tN y)))] → W p l e (RM 6 0 0) s m args below meth c H locs 0 0 Q (F0 m 35 ls []) := by
      intro fu1
      induction fu1 with
      | zero =>
        intro j1 x5_1 x4_1 fq5_1 fq6_1 fyk_1 fyt_1 y2_1 y3_1 hm1 hj1 hst1
        exact absurd hm1 (by omega)
      | succ fu1 ih1 =>
        intro j1 x5_1 x4_1 fq5_1 fq6_1 fyk_1 fyt_1 y2_1 y3_1 hm1 hj1 hst1 H locs ls hW hl
        refine lv_iload (pc := 35) hx hb dX11_fits_35 (lv_at hl 0 rfl) ?_
        refine lv_bipush (v := 24) (pc := 37) hx hb dX11_fits_37 (by decide) ?_
        refine lv_icmp_gt (tgt := 100) (pc := 39) hx hb dX11_fits_39 rfl (fun c6 => ?_) (fun c6 => ?_)
        · have h7 : 24 < j1 := (nI_ltI (a := 24) (b := j1) (by omega) (by omega)).mp c6
          have hN1 : j1 = 25 := by omega
          rw [hN1] at hst1
          have hs1_0 : x5_1 = (L1_X11_fits1 pc pe de pH pK pA pB oE k6 k8 K ta y (0 : Int32) (F_X10_whoHasTale pe (tN y) ta) pW pR kN tO yd yu 25).1 := congrArg (fun z => z.1) hst1
          have hs1_1 : x4_1 = (L1_X11_fits1 pc pe de pH pK pA pB oE k6 k8 K ta y (0 : Int32) (F_X10_whoHasTale pe (tN y) ta) pW pR kN tO yd yu 25).2.1 := congrArg (fun z => z.2.1) hst1
          have hs1_2 : fq5_1 = (L1_X11_fits1 pc pe de pH pK pA pB oE k6 k8 K ta y (0 : Int32) (F_X10_whoHasTale pe (tN y) ta) pW pR kN tO yd yu 25).2.2.1 := congrArg (fun z => z.2.2.1) hst1
          have hs1_3 : fq6_1 = (L1_X11_fits1 pc pe de pH pK pA pB oE k6 k8 K ta y (0 : Int32) (F_X10_whoHasTale pe (tN y) ta) pW pR kN tO yd yu 25).2.2.2.1 := congrArg (fun z => z.2.2.2.1) hst1
          have hs1_4 : fyk_1 = (L1_X11_fits1 pc pe de pH pK pA pB oE k6 k8 K ta y (0 : Int32) (F_X10_whoHasTale pe (tN y) ta) pW pR kN tO yd yu 25).2.2.2.2.1 := congrArg (fun z => z.2.2.2.2.1) hst1
          have hs1_5 : fyt_1 = (L1_X11_fits1 pc pe de pH pK pA pB oE k6 k8 K ta y (0 : Int32) (F_X10_whoHasTale pe (tN y) ta) pW pR kN tO yd yu 25).2.2.2.2.2.1 := congrArg (fun z => z.2.2.2.2.2.1) hst1
          have hs1_6 : y2_1 = (L1_X11_fits1 pc pe de pH pK pA pB oE k6 k8 K ta y (0 : Int32) (F_X10_whoHasTale pe (tN y) ta) pW pR kN tO yd yu 25).2.2.2.2.2.2.1 := congrArg (fun z => z.2.2.2.2.2.2.1) hst1
          have hs1_7 : y3_1 = (L1_X11_fits1 pc pe de pH pK pA pB oE k6 k8 K ta y (0 : Int32) (F_X10_whoHasTale pe (tN y) ta) pW pR kN tO yd yu 25).2.2.2.2.2.2.2 := congrArg (fun z => z.2.2.2.2.2.2.2) hst1
          clear hst1
          subst hs1_0
          subst hs1_1
          subst hs1_2
          subst hs1_3
          subst hs1_4
          subst hs1_5
          subst hs1_6
          subst hs1_7
          have hW : WD g A s _ _ [(a3, .inr (1, [.ref yk, .ref yt, .int ((L1_X11_fits1 pc pe de pH pK pA pB oE k6 k8 K ta y (0 : Int32) (F_X10_whoHasTale pe (tN y) ta) pW pR kN tO yd yu 25).2.2.2.2.2.2.1), .long ((L1_X11_fits1 pc pe de pH pK pA pB oE k6 k8 K ta y (0 : Int32) (F_X10_whoHasTale pe (tN y) ta) pW pR kN tO yd yu 25).2.2.2.2.2.2.2), .long yb])), (yk, .inl (g.2.1 1, 7, .inl ((L1_X11_fits1 pc pe de pH pK pA pB oE k6 k8 K ta y (0 : Int32) (F_X10_whoHasTale pe (tN y) ta) pW pR kN tO yd yu 25).2.2.2.2.1))), (yt, .inl (g.2.1 1, 7, .inl ((L1_X11_fits1 pc pe de pH pK pA pB oE k6 k8 K ta y (0 : Int32) (F_X10_whoHasTale pe (tN y) ta) pW pR kN tO yd yu 25).2.2.2.2.2.1))), (q, .inr (4, [.ref v, .int (nI pc), .ref q0, .ref q1, .ref q2, .ref q3, .ref q4, .ref q5, .ref q6])), (q0, .inl (g.2.1 1, 40, .inl pH)), (q1, .inl (g.2.1 1, 40, .inl pK)), (q2, .inl (g.2.1 1, 40, .inl pA)), (q3, .inl (g.2.1 1, 40, .inl pB)), (q4, .inl (g.2.1 1, 40, .inl oE)), (q5, .inl (g.2.1 1, 40, .inl ((L1_X11_fits1 pc pe de pH pK pA pB oE k6 k8 K ta y (0 : Int32) (F_X10_whoHasTale pe (tN y) ta) pW pR kN tO yd yu 25).2.2.1))), (q6, .inl (g.2.1 1, 40, .inl ((L1_X11_fits1 pc pe de pH pK pA pB oE k6 k8 K ta y (0 : Int32) (F_X10_whoHasTale pe (tN y) ta) pW pR kN tO yd yu 25).2.2.2.1))), (v6, .inl (g.2.1 1, 7, .inl k6)), (v8, .inl (g.2.1 1, 7, .inl k8)), (v10, .inl (g.2.1 1, 175, .inl K)), (h0, .inr (11, [.ref a0, .ref a1, .ref a2, .ref a3, .ref a4, .ref a5, .ref a6, .ref a7, .ref a8, .ref a9, .ref a10, .int (nI nv), .int (nI np), .int cc])), (a2, .inl (g.2.1 5, 12, .inr (.inr (.inr (.inr fB))))), (v, .inr (10, [.int (nI pe), .int lc, .int de, .ref v3, .ref v4, .ref v5, .ref v6, .ref v7, .ref v8, .ref v9, .ref v10, .ref v11, .ref v12, .ref v13, .int gl, .ref v15])), (v13, .inl (g.2.1 1, 28, .inl ta))] := hW
          refine lv_iload (pc := 100) hx hb dX11_fits_100 (lv_at hl 1 rfl) ?_
          refine lv_iload (pc := 102) hx hb dX11_fits_102 (lv_at hl 2 rfl) ?_
          refine lv_ior (pc := 104) hx hb dX11_fits_104 ?_
          refine lv_istore (lv' := [(5, .int (((L1_X11_fits1 pc pe de pH pK pA pB oE k6 k8 K ta y (0 : Int32) (F_X10_whoHasTale pe (tN y) ta) pW pR kN tO yd yu 25).1) ||| ((L1_X11_fits1 pc pe de pH pK pA pB oE k6 k8 K ta y (0 : Int32) (F_X10_whoHasTale pe (tN y) ta) pW pR kN tO yd yu 25).2.1))), (6, .int (nI j1)), (4, .int ((L1_X11_fits1 pc pe de pH pK pA pB oE k6 k8 K ta y (0 : Int32) (F_X10_whoHasTale pe (tN y) ta) pW pR kN tO yd yu 25).2.1)), (3, .ref q), (0, .ref h0), (1, .int (nI i)), (2, .int (nI (tN y)))]) (pc := 105) hx hb dX11_fits_105 hl (by decide) rfl (fun ls hl => ?_)
          refine lv_iload (pc := 107) hx hb dX11_fits_107 (lv_at hl 0 rfl) ?_
          refine c_Si (pc := 109) (As := [.int (((L1_X11_fits1 pc pe de pH pK pA pB oE k6 k8 K ta y (0 : Int32) (F_X10_whoHasTale pe (tN y) ta) pW pR kN tO yd yu 25).1) ||| ((L1_X11_fits1 pc pe de pH pK pA pB oE k6 k8 K ta y (0 : Int32) (F_X10_whoHasTale pe (tN y) ta) pW pR kN tO yd yu 25).2.1))]) (rest := []) (wr := [(a3, .inr (1, [.ref yk, .ref yt, .int ((L1_X11_fits1 pc pe de pH pK pA pB oE k6 k8 K ta y (0 : Int32) (F_X10_whoHasTale pe (tN y) ta) pW pR kN tO yd yu 25).2.2.2.2.2.2.1), .long ((L1_X11_fits1 pc pe de pH pK pA pB oE k6 k8 K ta y (0 : Int32) (F_X10_whoHasTale pe (tN y) ta) pW pR kN tO yd yu 25).2.2.2.2.2.2.2), .long yb])), (yk, .inl (g.2.1 1, 7, .inl ((L1_X11_fits1 pc pe de pH pK pA pB oE k6 k8 K ta y (0 : Int32) (F_X10_whoHasTale pe (tN y) ta) pW pR kN tO yd yu 25).2.2.2.2.1))), (yt, .inl (g.2.1 1, 7, .inl ((L1_X11_fits1 pc pe de pH pK pA pB oE k6 k8 K ta y (0 : Int32) (F_X10_whoHasTale pe (tN y) ta) pW pR kN tO yd yu 25).2.2.2.2.2.1))), (q, .inr (4, [.ref v, .int (nI pc), .ref q0, .ref q1, .ref q2, .ref q3, .ref q4, .ref q5, .ref q6])), (q0, .inl (g.2.1 1, 40, .inl pH)), (q1, .inl (g.2.1 1, 40, .inl pK)), (q2, .inl (g.2.1 1, 40, .inl pA)), (q3, .inl (g.2.1 1, 40, .inl pB)), (q4, .inl (g.2.1 1, 40, .inl oE)), (q5, .inl (g.2.1 1, 40, .inl ((L1_X11_fits1 pc pe de pH pK pA pB oE k6 k8 K ta y (0 : Int32) (F_X10_whoHasTale pe (tN y) ta) pW pR kN tO yd yu 25).2.2.1))), (q6, .inl (g.2.1 1, 40, .inl ((L1_X11_fits1 pc pe de pH pK pA pB oE k6 k8 K ta y (0 : Int32) (F_X10_whoHasTale pe (tN y) ta) pW pR kN tO yd yu 25).2.2.2.1))), (v6, .inl (g.2.1 1, 7, .inl k6)), (v8, .inl (g.2.1 1, 7, .inl k8)), (v10, .inl (g.2.1 1, 175, .inl K)), (h0, .inr (11, [.ref a0, .ref a1, .ref a2, .ref a3, .ref a4, .ref a5, .ref a6, .ref a7, .ref a8, .ref a9, .ref a10, .int (nI nv), .int (nI np), .int cc])), (a2, .inl (g.2.1 5, 12, .inr (.inr (.inr (.inr fB))))), (v, .inr (10, [.int (nI pe), .int lc, .int de, .ref v3, .ref v4, .ref v5, .ref v6, .ref v7, .ref v8, .ref v9, .ref v10, .ref v11, .ref v12, .ref v13, .int gl, .ref v15])), (v13, .inl (g.2.1 1, 28, .inl ta))]) X hW (K_X11_lowestOf l g (((L1_X11_fits1 pc pe de pH pK pA pB oE k6 k8 K ta y (0 : Int32) (F_X10_whoHasTale pe (tN y) ta) pW pR kN tO yd yu 25).1) ||| ((L1_X11_fits1 pc pe de pH pK pA pB oE k6 k8 K ta y (0 : Int32) (F_X10_whoHasTale pe (tN y) ta) pW pR kN tO yd yu 25).2.1))) vX11_322 [] [0, 1, 2, 3, 4, 5, 6, 7, 8, 9, 10, 11, 12, 13, 14, 15, 16, 17] rfl rfl rfl rfl rfl rfl hl.1 rfl (Nat.le_of_ble_eq_true rfl) ⟨Nat.le_of_ble_eq_true rfl, Nat.le_of_ble_eq_true rfl⟩ ⟨Nat.le_of_ble_eq_true rfl, Nat.le_of_ble_eq_true rfl⟩ dX11_fits_109 (fun r8 u9 H locs hq hW => ?_)
          obtain ⟨rfl, rfl⟩ := hq
          have hW : WD g A s _ _ [(a3, .inr (1, [.ref yk, .ref yt, .int ((L1_X11_fits1 pc pe de pH pK pA pB oE k6 k8 K ta y (0 : Int32) (F_X10_whoHasTale pe (tN y) ta) pW pR kN tO yd yu 25).2.2.2.2.2.2.1), .long ((L1_X11_fits1 pc pe de pH pK pA pB oE k6 k8 K ta y (0 : Int32) (F_X10_whoHasTale pe (tN y) ta) pW pR kN tO yd yu 25).2.2.2.2.2.2.2), .long yb])), (yk, .inl (g.2.1 1, 7, .inl ((L1_X11_fits1 pc pe de pH pK pA pB oE k6 k8 K ta y (0 : Int32) (F_X10_whoHasTale pe (tN y) ta) pW pR kN tO yd yu 25).2.2.2.2.1))), (yt, .inl (g.2.1 1, 7, .inl ((L1_X11_fits1 pc pe de pH pK pA pB oE k6 k8 K ta y (0 : Int32) (F_X10_whoHasTale pe (tN y) ta) pW pR kN tO yd yu 25).2.2.2.2.2.1))), (q, .inr (4, [.ref v, .int (nI pc), .ref q0, .ref q1, .ref q2, .ref q3, .ref q4, .ref q5, .ref q6])), (q0, .inl (g.2.1 1, 40, .inl pH)), (q1, .inl (g.2.1 1, 40, .inl pK)), (q2, .inl (g.2.1 1, 40, .inl pA)), (q3, .inl (g.2.1 1, 40, .inl pB)), (q4, .inl (g.2.1 1, 40, .inl oE)), (q5, .inl (g.2.1 1, 40, .inl ((L1_X11_fits1 pc pe de pH pK pA pB oE k6 k8 K ta y (0 : Int32) (F_X10_whoHasTale pe (tN y) ta) pW pR kN tO yd yu 25).2.2.1))), (q6, .inl (g.2.1 1, 40, .inl ((L1_X11_fits1 pc pe de pH pK pA pB oE k6 k8 K ta y (0 : Int32) (F_X10_whoHasTale pe (tN y) ta) pW pR kN tO yd yu 25).2.2.2.1))), (v6, .inl (g.2.1 1, 7, .inl k6)), (v8, .inl (g.2.1 1, 7, .inl k8)), (v10, .inl (g.2.1 1, 175, .inl K)), (h0, .inr (11, [.ref a0, .ref a1, .ref a2, .ref a3, .ref a4, .ref a5, .ref a6, .ref a7, .ref a8, .ref a9, .ref a10, .int (nI nv), .int (nI np), .int cc])), (a2, .inl (g.2.1 5, 12, .inr (.inr (.inr (.inr fB))))), (v, .inr (10, [.int (nI pe), .int lc, .int de, .ref v3, .ref v4, .ref v5, .ref v6, .ref v7, .ref v8, .ref v9, .ref v10, .ref v11, .ref v12, .ref v13, .int gl, .ref v15])), (v13, .inl (g.2.1 1, 28, .inl ta))] := hW
          have hF : F_X11_fits1 pc pe de yd yu kN tO pH pK pA pB oE pW pR k6 k8 K ta y = ((F_X11_lowestOf (((L1_X11_fits1 pc pe de pH pK pA pB oE k6 k8 K ta y (0 : Int32) (F_X10_whoHasTale pe (tN y) ta) pW pR kN tO yd yu 25).1) ||| ((L1_X11_fits1 pc pe de pH pK pA pB oE k6 k8 K ta y (0 : Int32) (F_X10_whoHasTale pe (tN y) ta) pW pR kN tO yd yu 25).2.1))), ((L1_X11_fits1 pc pe de pH pK pA pB oE k6 k8 K ta y (0 : Int32) (F_X10_whoHasTale pe (tN y) ta) pW pR kN tO yd yu 25).2.2.1), ((L1_X11_fits1 pc pe de pH pK pA pB oE k6 k8 K ta y (0 : Int32) (F_X10_whoHasTale pe (tN y) ta) pW pR kN tO yd yu 25).2.2.2.1), ((L1_X11_fits1 pc pe de pH pK pA pB oE k6 k8 K ta y (0 : Int32) (F_X10_whoHasTale pe (tN y) ta) pW pR kN tO yd yu 25).2.2.2.2.1), ((L1_X11_fits1 pc pe de pH pK pA pB oE k6 k8 K ta y (0 : Int32) (F_X10_whoHasTale pe (tN y) ta) pW pR kN tO yd yu 25).2.2.2.2.2.1), ((L1_X11_fits1 pc pe de pH pK pA pB oE k6 k8 K ta y (0 : Int32) (F_X10_whoHasTale pe (tN y) ta) pW pR kN tO yd yu 25).2.2.2.2.2.2.1), ((L1_X11_fits1 pc pe de pH pK pA pB oE k6 k8 K ta y (0 : Int32) (F_X10_whoHasTale pe (tN y) ta) pW pR kN tO yd yu 25).2.2.2.2.2.2.2)) := show F_X11_fits1 pc pe de yd yu kN tO pH pK pA pB oE pW pR k6 k8 K ta y = ((F_X11_lowestOf (((L1_X11_fits1 pc pe de pH pK pA pB oE k6 k8 K ta y (0 : Int32) (F_X10_whoHasTale pe (tN y) ta) pW pR kN tO yd yu 25).1) ||| ((L1_X11_fits1 pc pe de pH pK pA pB oE k6 k8 K ta y (0 : Int32) (F_X10_whoHasTale pe (tN y) ta) pW pR kN tO yd yu 25).2.1))), ((L1_X11_fits1 pc pe de pH pK pA pB oE k6 k8 K ta y (0 : Int32) (F_X10_whoHasTale pe (tN y) ta) pW pR kN tO yd yu 25).2.2.1), ((L1_X11_fits1 pc pe de pH pK pA pB oE k6 k8 K ta y (0 : Int32) (F_X10_whoHasTale pe (tN y) ta) pW pR kN tO yd yu 25).2.2.2.1), ((L1_X11_fits1 pc pe de pH pK pA pB oE k6 k8 K ta y (0 : Int32) (F_X10_whoHasTale pe (tN y) ta) pW pR kN tO yd yu 25).2.2.2.2.1), ((L1_X11_fits1 pc pe de pH pK pA pB oE k6 k8 K ta y (0 : Int32) (F_X10_whoHasTale pe (tN y) ta) pW pR kN tO yd yu 25).2.2.2.2.2.1), ((L1_X11_fits1 pc pe de pH pK pA pB oE k6 k8 K ta y (0 : Int32) (F_X10_whoHasTale pe (tN y) ta) pW pR kN tO yd yu 25).2.2.2.2.2.2.1), ((L1_X11_fits1 pc pe de pH pK pA pB oE k6 k8 K ta y (0 : Int32) (F_X10_whoHasTale pe (tN y) ta) pW pR kN tO yd yu 25).2.2.2.2.2.2.2)) from by rw [F_X11_fits1, if_neg c3]
          exact e_i (u := [(h0, .inr (11, [.ref a0, .ref a1, .ref a2, .ref a3, .ref a4, .ref a5, .ref a6, .ref a7, .ref a8, .ref a9, .ref a10, .int (nI nv), .int (nI np), .int cc])), (a2, .inl (g.2.1 5, 12, .inr (.inr (.inr (.inr fB))))), (a3, .inr (1, [.ref yk, .ref yt, .int ((L1_X11_fits1 pc pe de pH pK pA pB oE k6 k8 K ta y (0 : Int32) (F_X10_whoHasTale pe (tN y) ta) pW pR kN tO yd yu 25).2.2.2.2.2.2.1), .long ((L1_X11_fits1 pc pe de pH pK pA pB oE k6 k8 K ta y (0 : Int32) (F_X10_whoHasTale pe (tN y) ta) pW pR kN tO yd yu 25).2.2.2.2.2.2.2), .long yb])), (yk, .inl (g.2.1 1, 7, .inl ((L1_X11_fits1 pc pe de pH pK pA pB oE k6 k8 K ta y (0 : Int32) (F_X10_whoHasTale pe (tN y) ta) pW pR kN tO yd yu 25).2.2.2.2.1))), (yt, .inl (g.2.1 1, 7, .inl ((L1_X11_fits1 pc pe de pH pK pA pB oE k6 k8 K ta y (0 : Int32) (F_X10_whoHasTale pe (tN y) ta) pW pR kN tO yd yu 25).2.2.2.2.2.1))), (q, .inr (4, [.ref v, .int (nI pc), .ref q0, .ref q1, .ref q2, .ref q3, .ref q4, .ref q5, .ref q6])), (q0, .inl (g.2.1 1, 40, .inl pH)), (q1, .inl (g.2.1 1, 40, .inl pK)), (q2, .inl (g.2.1 1, 40, .inl pA)), (q3, .inl (g.2.1 1, 40, .inl pB)), (q4, .inl (g.2.1 1, 40, .inl oE)), (q5, .inl (g.2.1 1, 40, .inl ((L1_X11_fits1 pc pe de pH pK pA pB oE k6 k8 K ta y (0 : Int32) (F_X10_whoHasTale pe (tN y) ta) pW pR kN tO yd yu 25).2.2.1))), (q6, .inl (g.2.1 1, 40, .inl ((L1_X11_fits1 pc pe de pH pK pA pB oE k6 k8 K ta y (0 : Int32) (F_X10_whoHasTale pe (tN y) ta) pW pR kN tO yd yu 25).2.2.2.1))), (v, .inr (10, [.int (nI pe), .int lc, .int de, .ref v3, .ref v4, .ref v5, .ref v6, .ref v7, .ref v8, .ref v9, .ref v10, .ref v11, .ref v12, .ref v13, .int gl, .ref v15])), (v6, .inl (g.2.1 1, 7, .inl k6)), (v8, .inl (g.2.1 1, 7, .inl k8)), (v10, .inl (g.2.1 1, 175, .inl K)), (v13, .inl (g.2.1 1, 28, .inl ta))]) X hQ hr (hW) [14, 15, 0, 1, 2, 3, 4, 5, 6, 7, 8, 9, 10, 16, 11, 12, 13, 17] rfl rfl (⟨(congrArg Prod.fst hF).symm, by rw [hF]⟩) ⟨Nat.le_of_ble_eq_true rfl, Nat.le_of_ble_eq_true rfl⟩ dX11_fits_112
        · have h9 : ¬ (24 < j1) := fun q => c6 ((nI_ltI (a := 24) (b := j1) (by omega) (by omega)).mpr q)
          refine lv_aload_n (pc := 42) hx hb dX11_fits_42 rfl (lv_at hl 4 rfl) ?_
          refine r_get X hW 14 ciX11 3 rfl (by decide) m_356 rfl rfl dX11_fits_43 ?_
          refine lv_aload_n (pc := 46) hx hb dX11_fits_46 rfl (lv_at hl 3 rfl) ?_
          refine lv_iload (pc := 47) hx hb dX11_fits_47 (lv_at hl 0 rfl) ?_
          refine c_Vv (pc := 49) (As := [.ref q, .int (nI j1)]) (rest := []) (wr := [(h0, .inr (11, [.ref a0, .ref a1, .ref a2, .ref a3, .ref a4, .ref a5, .ref a6, .ref a7, .ref a8, .ref a9, .ref a10, .int (nI nv), .int (nI np), .int cc])), (a2, .inl (g.2.1 5, 12, .inr (.inr (.inr (.inr fB))))), (v13, .inl (g.2.1 1, 28, .inl ta))]) X hW 0 ciX1 rfl (K_X1_carryAll l g a3 yk yt y2_1 y3_1 yb fyk_1 fyt_1 q q0 q1 q2 q3 q4 q5 q6 pc v v3 v4 v5 v6 v7 v8 v9 v10 v11 v12 v13 v15 (nI pe) lc de gl (nI j1) pH pK pA pB oE fq5_1 fq6_1 k6 k8 K (by omega) hoe hH hCa hB) vX11_189 [0, 1, 2, 3, 4, 5, 6, 7, 8, 9, 10, 16, 11, 12, 13] [14, 15, 17] rfl rfl rfl rfl rfl rfl hl.1 rfl (Nat.le_of_ble_eq_true rfl) ⟨Nat.le_of_ble_eq_true rfl, Nat.le_of_ble_eq_true rfl⟩ ⟨Nat.le_of_ble_eq_true rfl, Nat.le_of_ble_eq_true rfl⟩ dX11_fits_49 (fun u9 H locs hq hW => ?_)
          obtain rfl := hq
          have hW : WD g A s _ _ [(h0, .inr (11, [.ref a0, .ref a1, .ref a2, .ref a3, .ref a4, .ref a5, .ref a6, .ref a7, .ref a8, .ref a9, .ref a10, .int (nI nv), .int (nI np), .int cc])), (a2, .inl (g.2.1 5, 12, .inr (.inr (.inr (.inr fB))))), (v13, .inl (g.2.1 1, 28, .inl ta)), (a3, .inr (1, [.ref yk, .ref yt, .int ((F_X1_carryAll fyk_1 fyt_1 pc de (nI j1) pH pK pA pB oE fq5_1 fq6_1 k6 k8 K).2.2.1), .long ((F_X1_carryAll fyk_1 fyt_1 pc de (nI j1) pH pK pA pB oE fq5_1 fq6_1 k6 k8 K).2.2.2.1), .long yb])), (yk, .inl (g.2.1 1, 7, .inl ((F_X1_carryAll fyk_1 fyt_1 pc de (nI j1) pH pK pA pB oE fq5_1 fq6_1 k6 k8 K).1))), (yt, .inl (g.2.1 1, 7, .inl ((F_X1_carryAll fyk_1 fyt_1 pc de (nI j1) pH pK pA pB oE fq5_1 fq6_1 k6 k8 K).2.1))), (q, .inr (4, [.ref v, .int (nI pc), .ref q0, .ref q1, .ref q2, .ref q3, .ref q4, .ref q5, .ref q6])), (q0, .inl (g.2.1 1, 40, .inl pH)), (q1, .inl (g.2.1 1, 40, .inl pK)), (q2, .inl (g.2.1 1, 40, .inl pA)), (q3, .inl (g.2.1 1, 40, .inl pB)), (q4, .inl (g.2.1 1, 40, .inl oE)), (q5, .inl (g.2.1 1, 40, .inl ((F_X1_carryAll fyk_1 fyt_1 pc de (nI j1) pH pK pA pB oE fq5_1 fq6_1 k6 k8 K).2.2.2.2.1))), (q6, .inl (g.2.1 1, 40, .inl ((F_X1_carryAll fyk_1 fyt_1 pc de (nI j1) pH pK pA pB oE fq5_1 fq6_1 k6 k8 K).2.2.2.2.2))), (v, .inr (10, [.int (nI pe), .int lc, .int de, .ref v3, .ref v4, .ref v5, .ref v6, .ref v7, .ref v8, .ref v9, .ref v10, .ref v11, .ref v12, .ref v13, .int gl, .ref v15])), (v6, .inl (g.2.1 1, 7, .inl k6)), (v8, .inl (g.2.1 1, 7, .inl k8)), (v10, .inl (g.2.1 1, 175, .inl K))] := hW
          refine lv_iload (pc := 52) hx hb dX11_fits_52 (lv_at hl 2 rfl) ?_
          refine lv_aload_n (pc := 54) hx hb dX11_fits_54 rfl (lv_at hl 4 rfl) ?_
          refine r_get X hW 0 ciX11 3 rfl (by decide) m_356 rfl rfl dX11_fits_55 ?_
          refine lv_iload_n (pc := 58) hx hb dX11_fits_58 rfl (lv_at hl 6 rfl) ?_
          refine c_Vi (pc := 59) (As := [.int (nI (tN y))]) (rest := [.int x4_1]) (wr := [(h0, .inr (11, [.ref a0, .ref a1, .ref a2, .ref a3, .ref a4, .ref a5, .ref a6, .ref a7, .ref a8, .ref a9, .ref a10, .int (nI nv), .int (nI np), .int cc])), (a2, .inl (g.2.1 5, 12, .inr (.inr (.inr (.inr fB))))), (v13, .inl (g.2.1 1, 28, .inl ta)), (q, .inr (4, [.ref v, .int (nI pc), .ref q0, .ref q1, .ref q2, .ref q3, .ref q4, .ref q5, .ref q6])), (q0, .inl (g.2.1 1, 40, .inl pH)), (q1, .inl (g.2.1 1, 40, .inl pK)), (q2, .inl (g.2.1 1, 40, .inl pA)), (q3, .inl (g.2.1 1, 40, .inl pB)), (q4, .inl (g.2.1 1, 40, .inl oE)), (q5, .inl (g.2.1 1, 40, .inl ((F_X1_carryAll fyk_1 fyt_1 pc de (nI j1) pH pK pA pB oE fq5_1 fq6_1 k6 k8 K).2.2.2.2.1))), (q6, .inl (g.2.1 1, 40, .inl ((F_X1_carryAll fyk_1 fyt_1 pc de (nI j1) pH pK pA pB oE fq5_1 fq6_1 k6 k8 K).2.2.2.2.2))), (v, .inr (10, [.int (nI pe), .int lc, .int de, .ref v3, .ref v4, .ref v5, .ref v6, .ref v7, .ref v8, .ref v9, .ref v10, .ref v11, .ref v12, .ref v13, .int gl, .ref v15])), (v6, .inl (g.2.1 1, 7, .inl k6)), (v8, .inl (g.2.1 1, 7, .inl k8)), (v10, .inl (g.2.1 1, 175, .inl K))]) X hW 3 ciX1 rfl (K_X1_whoKnows l g a3 yk yt ((F_X1_carryAll fyk_1 fyt_1 pc de (nI j1) pH pK pA pB oE fq5_1 fq6_1 k6 k8 K).2.2.1) ((F_X1_carryAll fyk_1 fyt_1 pc de (nI j1) pH pK pA pB oE fq5_1 fq6_1 k6 k8 K).2.2.2.1) yb ((F_X1_carryAll fyk_1 fyt_1 pc de (nI j1) pH pK pA pB oE fq5_1 fq6_1 k6 k8 K).1) ((F_X1_carryAll fyk_1 fyt_1 pc de (nI j1) pH pK pA pB oE fq5_1 fq6_1 k6 k8 K).2.1) (tN y) (by omega)) vX11_230 [3, 4, 5] [0, 1, 2, 6, 7, 8, 9, 10, 11, 12, 13, 14, 15, 16, 17] rfl rfl rfl rfl rfl rfl hl.1 rfl (Nat.le_of_ble_eq_true rfl) ⟨Nat.le_of_ble_eq_true rfl, Nat.le_of_ble_eq_true rfl⟩ ⟨Nat.le_of_ble_eq_true rfl, Nat.le_of_ble_eq_true rfl⟩ dX11_fits_59 (fun r10 u9 H locs hq hW => ?_)
          obtain ⟨rfl, rfl⟩ := hq
          have hW : WD g A s _ _ [(h0, .inr (11, [.ref a0, .ref a1, .ref a2, .ref a3, .ref a4, .ref a5, .ref a6, .ref a7, .ref a8, .ref a9, .ref a10, .int (nI nv), .int (nI np), .int cc])), (a2, .inl (g.2.1 5, 12, .inr (.inr (.inr (.inr fB))))), (v13, .inl (g.2.1 1, 28, .inl ta)), (q, .inr (4, [.ref v, .int (nI pc), .ref q0, .ref q1, .ref q2, .ref q3, .ref q4, .ref q5, .ref q6])), (q0, .inl (g.2.1 1, 40, .inl pH)), (q1, .inl (g.2.1 1, 40, .inl pK)), (q2, .inl (g.2.1 1, 40, .inl pA)), (q3, .inl (g.2.1 1, 40, .inl pB)), (q4, .inl (g.2.1 1, 40, .inl oE)), (q5, .inl (g.2.1 1, 40, .inl ((F_X1_carryAll fyk_1 fyt_1 pc de (nI j1) pH pK pA pB oE fq5_1 fq6_1 k6 k8 K).2.2.2.2.1))), (q6, .inl (g.2.1 1, 40, .inl ((F_X1_carryAll fyk_1 fyt_1 pc de (nI j1) pH pK pA pB oE fq5_1 fq6_1 k6 k8 K).2.2.2.2.2))), (v, .inr (10, [.int (nI pe), .int lc, .int de, .ref v3, .ref v4, .ref v5, .ref v6, .ref v7, .ref v8, .ref v9, .ref v10, .ref v11, .ref v12, .ref v13, .int gl, .ref v15])), (v6, .inl (g.2.1 1, 7, .inl k6)), (v8, .inl (g.2.1 1, 7, .inl k8)), (v10, .inl (g.2.1 1, 175, .inl K)), (a3, .inr (1, [.ref yk, .ref yt, .int ((F_X1_carryAll fyk_1 fyt_1 pc de (nI j1) pH pK pA pB oE fq5_1 fq6_1 k6 k8 K).2.2.1), .long ((F_X1_carryAll fyk_1 fyt_1 pc de (nI j1) pH pK pA pB oE fq5_1 fq6_1 k6 k8 K).2.2.2.1), .long yb])), (yk, .inl (g.2.1 1, 7, .inl ((F_X1_carryAll fyk_1 fyt_1 pc de (nI j1) pH pK pA pB oE fq5_1 fq6_1 k6 k8 K).1))), (yt, .inl (g.2.1 1, 7, .inl ((F_X1_carryAll fyk_1 fyt_1 pc de (nI j1) pH pK pA pB oE fq5_1 fq6_1 k6 k8 K).2.1)))] := hW
          refine lv_iand (pc := 62) hx hb dX11_fits_62 ?_
          refine lv_istore (lv' := [(7, .int (x4_1 &&& (F_X1_whoKnows ((F_X1_carryAll fyk_1 fyt_1 pc de (nI j1) pH pK pA pB oE fq5_1 fq6_1 k6 k8 K).1) (tN y)))), (6, .int (nI j1)), (5, .int x5_1), (4, .int x4_1), (3, .ref q), (0, .ref h0), (1, .int (nI i)), (2, .int (nI (tN y)))]) (pc := 63) hx hb dX11_fits_63 hl (by decide) rfl (fun ls hl => ?_)
          refine lv_iload (pc := 65) hx hb dX11_fits_65 (lv_at hl 2 rfl) ?_
          refine lv_iload (pc := 67) hx hb dX11_fits_67 (lv_at hl 0 rfl) ?_
          refine lv_aload_n (pc := 69) hx hb dX11_fits_69 rfl (lv_at hl 4 rfl) ?_
          refine r_getN X hW 3 ciX4 0 rfl (by decide) m_568 rfl rfl dX11_fits_70 ?_
          refine lv_iload_n (pc := 73) hx hb dX11_fits_73 rfl (lv_at hl 7 rfl) ?_
          refine lv_iload (pc := 74) hx hb dX11_fits_74 (lv_at hl 1 rfl) ?_
          refine c_Vi (pc := 76) (As := [.int (nI (tN y)), .int (nI j1)]) (rest := [.int (x4_1 &&& (F_X1_whoKnows ((F_X1_carryAll fyk_1 fyt_1 pc de (nI j1) pH pK pA pB oE fq5_1 fq6_1 k6 k8 K).1) (tN y))), .int x5_1]) (wr := [(h0, .inr (11, [.ref a0, .ref a1, .ref a2, .ref a3, .ref a4, .ref a5, .ref a6, .ref a7, .ref a8, .ref a9, .ref a10, .int (nI nv), .int (nI np), .int cc])), (a2, .inl (g.2.1 5, 12, .inr (.inr (.inr (.inr fB))))), (q, .inr (4, [.ref v, .int (nI pc), .ref q0, .ref q1, .ref q2, .ref q3, .ref q4, .ref q5, .ref q6])), (q0, .inl (g.2.1 1, 40, .inl pH)), (q1, .inl (g.2.1 1, 40, .inl pK)), (q2, .inl (g.2.1 1, 40, .inl pA)), (q3, .inl (g.2.1 1, 40, .inl pB)), (q4, .inl (g.2.1 1, 40, .inl oE)), (q5, .inl (g.2.1 1, 40, .inl ((F_X1_carryAll fyk_1 fyt_1 pc de (nI j1) pH pK pA pB oE fq5_1 fq6_1 k6 k8 K).2.2.2.2.1))), (q6, .inl (g.2.1 1, 40, .inl ((F_X1_carryAll fyk_1 fyt_1 pc de (nI j1) pH pK pA pB oE fq5_1 fq6_1 k6 k8 K).2.2.2.2.2))), (v6, .inl (g.2.1 1, 7, .inl k6)), (v8, .inl (g.2.1 1, 7, .inl k8)), (v10, .inl (g.2.1 1, 175, .inl K)), (a3, .inr (1, [.ref yk, .ref yt, .int ((F_X1_carryAll fyk_1 fyt_1 pc de (nI j1) pH pK pA pB oE fq5_1 fq6_1 k6 k8 K).2.2.1), .long ((F_X1_carryAll fyk_1 fyt_1 pc de (nI j1) pH pK pA pB oE fq5_1 fq6_1 k6 k8 K).2.2.2.1), .long yb])), (yk, .inl (g.2.1 1, 7, .inl ((F_X1_carryAll fyk_1 fyt_1 pc de (nI j1) pH pK pA pB oE fq5_1 fq6_1 k6 k8 K).1))), (yt, .inl (g.2.1 1, 7, .inl ((F_X1_carryAll fyk_1 fyt_1 pc de (nI j1) pH pK pA pB oE fq5_1 fq6_1 k6 k8 K).2.1)))]) X hW 11 ciX10 rfl (K_X10_whoseTaleIs l g v v3 v4 v5 v6 v7 v8 v9 v10 v11 v12 v13 v15 pe lc de gl (tN y) (nI j1) ta (by omega) (by omega)) vX11_319 [11, 2] [0, 1, 3, 4, 5, 6, 7, 8, 9, 10, 12, 13, 14, 15, 16, 17] rfl rfl rfl rfl rfl rfl hl.1 rfl (Nat.le_of_ble_eq_true rfl) ⟨Nat.le_of_ble_eq_true rfl, Nat.le_of_ble_eq_true rfl⟩ ⟨Nat.le_of_ble_eq_true rfl, Nat.le_of_ble_eq_true rfl⟩ dX11_fits_76 (fun r11 u9 H locs hq hW => ?_)
          obtain ⟨rfl, rfl⟩ := hq
          have hW : WD g A s _ _ [(h0, .inr (11, [.ref a0, .ref a1, .ref a2, .ref a3, .ref a4, .ref a5, .ref a6, .ref a7, .ref a8, .ref a9, .ref a10, .int (nI nv), .int (nI np), .int cc])), (a2, .inl (g.2.1 5, 12, .inr (.inr (.inr (.inr fB))))), (q, .inr (4, [.ref v, .int (nI pc), .ref q0, .ref q1, .ref q2, .ref q3, .ref q4, .ref q5, .ref q6])), (q0, .inl (g.2.1 1, 40, .inl pH)), (q1, .inl (g.2.1 1, 40, .inl pK)), (q2, .inl (g.2.1 1, 40, .inl pA)), (q3, .inl (g.2.1 1, 40, .inl pB)), (q4, .inl (g.2.1 1, 40, .inl oE)), (q5, .inl (g.2.1 1, 40, .inl ((F_X1_carryAll fyk_1 fyt_1 pc de (nI j1) pH pK pA pB oE fq5_1 fq6_1 k6 k8 K).2.2.2.2.1))), (q6, .inl (g.2.1 1, 40, .inl ((F_X1_carryAll fyk_1 fyt_1 pc de (nI j1) pH pK pA pB oE fq5_1 fq6_1 k6 k8 K).2.2.2.2.2))), (v6, .inl (g.2.1 1, 7, .inl k6)), (v8, .inl (g.2.1 1, 7, .inl k8)), (v10, .inl (g.2.1 1, 175, .inl K)), (a3, .inr (1, [.ref yk, .ref yt, .int ((F_X1_carryAll fyk_1 fyt_1 pc de (nI j1) pH pK pA pB oE fq5_1 fq6_1 k6 k8 K).2.2.1), .long ((F_X1_carryAll fyk_1 fyt_1 pc de (nI j1) pH pK pA pB oE fq5_1 fq6_1 k6 k8 K).2.2.2.1), .long yb])), (yk, .inl (g.2.1 1, 7, .inl ((F_X1_carryAll fyk_1 fyt_1 pc de (nI j1) pH pK pA pB oE fq5_1 fq6_1 k6 k8 K).1))), (yt, .inl (g.2.1 1, 7, .inl ((F_X1_carryAll fyk_1 fyt_1 pc de (nI j1) pH pK pA pB oE fq5_1 fq6_1 k6 k8 K).2.1))), (v, .inr (10, [.int (nI pe), .int lc, .int de, .ref v3, .ref v4, .ref v5, .ref v6, .ref v7, .ref v8, .ref v9, .ref v10, .ref v11, .ref v12, .ref v13, .int gl, .ref v15])), (v13, .inl (g.2.1 1, 28, .inl ta))] := hW
          refine lv_iconst (v := (-1)) (pc := 79) hx hb dX11_fits_79 (by decide) ?_
          refine lv_ixor (pc := 80) hx hb dX11_fits_80 ?_
          refine lv_iand (pc := 81) hx hb dX11_fits_81 ?_
          refine lv_ior (pc := 82) hx hb dX11_fits_82 ?_
          refine lv_istore (lv' := [(5, .int (x5_1 ||| ((x4_1 &&& (F_X1_whoKnows ((F_X1_carryAll fyk_1 fyt_1 pc de (nI j1) pH pK pA pB oE fq5_1 fq6_1 k6 k8 K).1) (tN y))) &&& ((F_X10_whoseTaleIs pe (tN y) (nI j1) ta) ^^^ (-1 : Int32))))), (7, .int (x4_1 &&& (F_X1_whoKnows ((F_X1_carryAll fyk_1 fyt_1 pc de (nI j1) pH pK pA pB oE fq5_1 fq6_1 k6 k8 K).1) (tN y)))), (6, .int (nI j1)), (4, .int x4_1), (3, .ref q), (0, .ref h0), (1, .int (nI i)), (2, .int (nI (tN y)))]) (pc := 83) hx hb dX11_fits_83 hl (by decide) rfl (fun ls hl => ?_)
          refine lv_iload (pc := 85) hx hb dX11_fits_85 (lv_at hl 3 rfl) ?_
          refine lv_iload (pc := 87) hx hb dX11_fits_87 (lv_at hl 1 rfl) ?_
          refine lv_iconst (v := (-1)) (pc := 89) hx hb dX11_fits_89 (by decide) ?_
          refine lv_ixor (pc := 90) hx hb dX11_fits_90 ?_
          refine lv_iand (pc := 91) hx hb dX11_fits_91 ?_
          refine lv_istore (lv' := [(4, .int (x4_1 &&& ((x4_1 &&& (F_X1_whoKnows ((F_X1_carryAll fyk_1 fyt_1 pc de (nI j1) pH pK pA pB oE fq5_1 fq6_1 k6 k8 K).1) (tN y))) ^^^ (-1 : Int32)))), (5, .int (x5_1 ||| ((x4_1 &&& (F_X1_whoKnows ((F_X1_carryAll fyk_1 fyt_1 pc de (nI j1) pH pK pA pB oE fq5_1 fq6_1 k6 k8 K).1) (tN y))) &&& ((F_X10_whoseTaleIs pe (tN y) (nI j1) ta) ^^^ (-1 : Int32))))), (7, .int (x4_1 &&& (F_X1_whoKnows ((F_X1_carryAll fyk_1 fyt_1 pc de (nI j1) pH pK pA pB oE fq5_1 fq6_1 k6 k8 K).1) (tN y)))), (6, .int (nI j1)), (3, .ref q), (0, .ref h0), (1, .int (nI i)), (2, .int (nI (tN y)))]) (pc := 92) hx hb dX11_fits_92 hl (by decide) rfl (fun ls hl => ?_)
          refine lv_iinc (v := nI (j1 + 1)) (lv' := [(6, .int (nI (j1 + 1))), (4, .int (x4_1 &&& ((x4_1 &&& (F_X1_whoKnows ((F_X1_carryAll fyk_1 fyt_1 pc de (nI j1) pH pK pA pB oE fq5_1 fq6_1 k6 k8 K).1) (tN y))) ^^^ (-1 : Int32)))), (5, .int (x5_1 ||| ((x4_1 &&& (F_X1_whoKnows ((F_X1_carryAll fyk_1 fyt_1 pc de (nI j1) pH pK pA pB oE fq5_1 fq6_1 k6 k8 K).1) (tN y))) &&& ((F_X10_whoseTaleIs pe (tN y) (nI j1) ta) ^^^ (-1 : Int32))))), (7, .int (x4_1 &&& (F_X1_whoKnows ((F_X1_carryAll fyk_1 fyt_1 pc de (nI j1) pH pK pA pB oE fq5_1 fq6_1 k6 k8 K).1) (tN y)))), (3, .ref q), (0, .ref h0), (1, .int (nI i)), (2, .int (nI (tN y)))]) (pc := 94) hx hb dX11_fits_94 hl (k := 3) rfl (nI_add j1 1) (by decide) rfl (fun ls hl => ?_)
          refine lv_goto (tgt := 35) (pc := 97) hx hb dX11_fits_97 rfl ?_
          have hW : WD g A s _ _ [(a3, .inr (1, [.ref yk, .ref yt, .int ((F_X1_carryAll fyk_1 fyt_1 pc de (nI j1) pH pK pA pB oE fq5_1 fq6_1 k6 k8 K).2.2.1), .long ((F_X1_carryAll fyk_1 fyt_1 pc de (nI j1) pH pK pA pB oE fq5_1 fq6_1 k6 k8 K).2.2.2.1), .long yb])), (yk, .inl (g.2.1 1, 7, .inl ((F_X1_carryAll fyk_1 fyt_1 pc de (nI j1) pH pK pA pB oE fq5_1 fq6_1 k6 k8 K).1))), (yt, .inl (g.2.1 1, 7, .inl ((F_X1_carryAll fyk_1 fyt_1 pc de (nI j1) pH pK pA pB oE fq5_1 fq6_1 k6 k8 K).2.1))), (q, .inr (4, [.ref v, .int (nI pc), .ref q0, .ref q1, .ref q2, .ref q3, .ref q4, .ref q5, .ref q6])), (q0, .inl (g.2.1 1, 40, .inl pH)), (q1, .inl (g.2.1 1, 40, .inl pK)), (q2, .inl (g.2.1 1, 40, .inl pA)), (q3, .inl (g.2.1 1, 40, .inl pB)), (q4, .inl (g.2.1 1, 40, .inl oE)), (q5, .inl (g.2.1 1, 40, .inl ((F_X1_carryAll fyk_1 fyt_1 pc de (nI j1) pH pK pA pB oE fq5_1 fq6_1 k6 k8 K).2.2.2.2.1))), (q6, .inl (g.2.1 1, 40, .inl ((F_X1_carryAll fyk_1 fyt_1 pc de (nI j1) pH pK pA pB oE fq5_1 fq6_1 k6 k8 K).2.2.2.2.2))), (v6, .inl (g.2.1 1, 7, .inl k6)), (v8, .inl (g.2.1 1, 7, .inl k8)), (v10, .inl (g.2.1 1, 175, .inl K)), (h0, .inr (11, [.ref a0, .ref a1, .ref a2, .ref a3, .ref a4, .ref a5, .ref a6, .ref a7, .ref a8, .ref a9, .ref a10, .int (nI nv), .int (nI np), .int cc])), (a2, .inl (g.2.1 5, 12, .inr (.inr (.inr (.inr fB))))), (v, .inr (10, [.int (nI pe), .int lc, .int de, .ref v3, .ref v4, .ref v5, .ref v6, .ref v7, .ref v8, .ref v9, .ref v10, .ref v11, .ref v12, .ref v13, .int gl, .ref v15])), (v13, .inl (g.2.1 1, 28, .inl ta))] := hW.pick [13, 14, 15, 2, 3, 4, 5, 6, 7, 8, 9, 10, 11, 12, 0, 1, 16, 17] rfl rfl
          exact ih1 (j1 + 1) (x5_1 ||| ((x4_1 &&& (F_X1_whoKnows ((F_X1_carryAll fyk_1 fyt_1 pc de (nI j1) pH pK pA pB oE fq5_1 fq6_1 k6 k8 K).1) (tN y))) &&& ((F_X10_whoseTaleIs pe (tN y) (nI j1) ta) ^^^ (-1 : Int32)))) (x4_1 &&& ((x4_1 &&& (F_X1_whoKnows ((F_X1_carryAll fyk_1 fyt_1 pc de (nI j1) pH pK pA pB oE fq5_1 fq6_1 k6 k8 K).1) (tN y))) ^^^ (-1 : Int32))) ((F_X1_carryAll fyk_1 fyt_1 pc de (nI j1) pH pK pA pB oE fq5_1 fq6_1 k6 k8 K).2.2.2.2.1) ((F_X1_carryAll fyk_1 fyt_1 pc de (nI j1) pH pK pA pB oE fq5_1 fq6_1 k6 k8 K).2.2.2.2.2) ((F_X1_carryAll fyk_1 fyt_1 pc de (nI j1) pH pK pA pB oE fq5_1 fq6_1 k6 k8 K).1) ((F_X1_carryAll fyk_1 fyt_1 pc de (nI j1) pH pK pA pB oE fq5_1 fq6_1 k6 k8 K).2.1) ((F_X1_carryAll fyk_1 fyt_1 pc de (nI j1) pH pK pA pB oE fq5_1 fq6_1 k6 k8 K).2.2.1) ((F_X1_carryAll fyk_1 fyt_1 pc de (nI j1) pH pK pA pB oE fq5_1 fq6_1 k6 k8 K).2.2.2.1) (by omega) (by omega) (by rw [L1_X11_fits1, ← hst1]; exact (show L1_X11_fits1s pc pe de pH pK pA pB oE k6 k8 K ta y j1 x5_1 x4_1 fq5_1 fq6_1 fyk_1 fyt_1 y2_1 y3_1 = (x5_1 ||| ((x4_1 &&& (F_X1_whoKnows ((F_X1_carryAll fyk_1 fyt_1 pc de (nI j1) pH pK pA pB oE fq5_1 fq6_1 k6 k8 K).1) (tN y))) &&& ((F_X10_whoseTaleIs pe (tN y) (nI j1) ta) ^^^ (-1 : Int32))), x4_1 &&& ((x4_1 &&& (F_X1_whoKnows ((F_X1_carryAll fyk_1 fyt_1 pc de (nI j1) pH pK pA pB oE fq5_1 fq6_1 k6 k8 K).1) (tN y))) ^^^ (-1 : Int32)), ((F_X1_carryAll fyk_1 fyt_1 pc de (nI j1) pH pK pA pB oE fq5_1 fq6_1 k6 k8 K).2.2.2.2.1), ((F_X1_carryAll fyk_1 fyt_1 pc de (nI j1) pH pK pA pB oE fq5_1 fq6_1 k6 k8 K).2.2.2.2.2), ((F_X1_carryAll fyk_1 fyt_1 pc de (nI j1) pH pK pA pB oE fq5_1 fq6_1 k6 k8 K).1), ((F_X1_carryAll fyk_1 fyt_1 pc de (nI j1) pH pK pA pB oE fq5_1 fq6_1 k6 k8 K).2.1), ((F_X1_carryAll fyk_1 fyt_1 pc de (nI j1) pH pK pA pB oE fq5_1 fq6_1 k6 k8 K).2.2.1), ((F_X1_carryAll fyk_1 fyt_1 pc de (nI j1) pH pK pA pB oE fq5_1 fq6_1 k6 k8 K).2.2.2.1)) from rfl).symm) _ _ _ hW (lv_sub hl [0, 2, 1, 4, 5, 6, 7] rfl)
    exact loop1 (25 + 1) 0 (0 : Int32) (F_X10_whoHasTale pe (tN y) ta) pW pR kN tO yd yu (by omega) (by omega) rfl _ _ _ hW (lv_sub hl [0, 1, 2, 3, 4, 5, 6] rfl)
  · refine lv_iconst (v := (-1)) (pc := 17) hx hb dX11_fits_17 (by decide) ?_
    have hF : F_X11_fits1 pc pe de yd yu kN tO pH pK pA pB oE pW pR k6 k8 K ta y = ((-1 : Int32), pW, pR, kN, tO, yd, yu) := show F_X11_fits1 pc pe de yd yu kN tO pH pK pA pB oE pW pR k6 k8 K ta y = ((-1 : Int32), pW, pR, kN, tO, yd, yu) from by rw [F_X11_fits1, if_pos c3]
    exact e_i (u := [(h0, .inr (11, [.ref a0, .ref a1, .ref a2, .ref a3, .ref a4, .ref a5, .ref a6, .ref a7, .ref a8, .ref a9, .ref a10, .int (nI nv), .int (nI np), .int cc])), (a2, .inl (g.2.1 5, 12, .inr (.inr (.inr (.inr fB))))), (a3, .inr (1, [.ref yk, .ref yt, .int yd, .long yu, .long yb])), (yk, .inl (g.2.1 1, 7, .inl kN)), (yt, .inl (g.2.1 1, 7, .inl tO)), (q, .inr (4, [.ref v, .int (nI pc), .ref q0, .ref q1, .ref q2, .ref q3, .ref q4, .ref q5, .ref q6])), (q0, .inl (g.2.1 1, 40, .inl pH)), (q1, .inl (g.2.1 1, 40, .inl pK)), (q2, .inl (g.2.1 1, 40, .inl pA)), (q3, .inl (g.2.1 1, 40, .inl pB)), (q4, .inl (g.2.1 1, 40, .inl oE)), (q5, .inl (g.2.1 1, 40, .inl pW)), (q6, .inl (g.2.1 1, 40, .inl pR)), (v, .inr (10, [.int (nI pe), .int lc, .int de, .ref v3, .ref v4, .ref v5, .ref v6, .ref v7, .ref v8, .ref v9, .ref v10, .ref v11, .ref v12, .ref v13, .int gl, .ref v15])), (v6, .inl (g.2.1 1, 7, .inl k6)), (v8, .inl (g.2.1 1, 7, .inl k8)), (v10, .inl (g.2.1 1, 175, .inl K)), (v13, .inl (g.2.1 1, 28, .inl ta))]) X hQ hr (hW) [16, 17, 0, 1, 2, 3, 4, 5, 6, 7, 8, 9, 10, 11, 12, 13, 14, 15] rfl rfl (⟨(congrArg Prod.fst hF).symm, by rw [hF]⟩) ⟨Nat.le_of_ble_eq_true rfl, Nat.le_of_ble_eq_true rfl⟩ dX11_fits_18

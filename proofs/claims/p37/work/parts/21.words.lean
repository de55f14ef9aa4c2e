theorem m_474 : (Cond.code yX8_deafOne prog_10_method_12_code 3 (Option.some FieldType.boolean)) ∈ BW := bw (tb2 234 rfl) (by decide +kernel)
theorem dX8_deafOne_0 : decode cX8_deafOne 0 = .ok (.aload_n 0, 1) := DX8_deafOne _ _ _ rfl
theorem dX8_deafOne_1 : decode cX8_deafOne 1 = .ok (.dup, 1) := DX8_deafOne _ _ _ rfl
theorem dX8_deafOne_2 : decode cX8_deafOne 2 = .ok (.getfield 27, 3) := DX8_deafOne _ _ _ rfl
theorem dX8_deafOne_5 : decode cX8_deafOne 5 = .ok (.iconst 1, 1) := DX8_deafOne _ _ _ rfl
theorem dX8_deafOne_6 : decode cX8_deafOne 6 = .ok (.iadd, 1) := DX8_deafOne _ _ _ rfl
theorem dX8_deafOne_7 : decode cX8_deafOne 7 = .ok (.putfield 27, 3) := DX8_deafOne _ _ _ rfl
theorem dX8_deafOne_10 : decode cX8_deafOne 10 = .ok (.aload_n 0, 1) := DX8_deafOne _ _ _ rfl
theorem dX8_deafOne_11 : decode cX8_deafOne 11 = .ok (.iconst 0, 1) := DX8_deafOne _ _ _ rfl
theorem dX8_deafOne_12 : decode cX8_deafOne 12 = .ok (.aload_n 1, 1) := DX8_deafOne _ _ _ rfl
theorem m_278 : (Cond.fieldLinkNest "NoonValley$Tape" 45 "NoonValley$Valley" "people" "I" "NoonValley") ∈ NWS := nw (tb2 38 (by decide +kernel)) (by decide +kernel)
theorem dX8_deafOne_13 : decode cX8_deafOne 13 = .ok (.getfield 45, 3) := DX8_deafOne _ _ _ rfl
theorem dX8_deafOne_16 : decode cX8_deafOne 16 = .ok (.iconst 1, 1) := DX8_deafOne _ _ _ rfl
theorem dX8_deafOne_17 : decode cX8_deafOne 17 = .ok (.isub, 1) := DX8_deafOne _ _ _ rfl
theorem dX8_deafOne_18 : decode cX8_deafOne 18 = .ok (.iconst (-1), 1) := DX8_deafOne _ _ _ rfl
theorem m_442 : (Cond.methodLink "NoonValley$Tape" 41 yX8_number) ∈ BW := bw (tb2 202 (by decide +kernel)) (by decide +kernel)
theorem m_444 : (Cond.instanceMethod yX8_number) ∈ BW := bw (tb2 204 (by decide +kernel)) (by decide +kernel)
theorem s_1_3 : (Cond.selects RX8 yX8_number yX8_number) ∈ BW := bw (sl1 (y := yX8_number) (n := 3) 3 (by decide +kernel)) (by decide +kernel)
theorem vX8_41 : LV RX8 41 RX8 yX8_number cX8_number 6 (some .int) 3 := ⟨m_442, m_444, s_1_3, m_2, m_445, rfl, by decide, by decide, by decide +kernel⟩
theorem dX8_deafOne_19 : decode cX8_deafOne 19 = .ok (.invokevirtual 41, 3) := DX8_deafOne _ _ _ rfl
theorem dX8_deafOne_22 : decode cX8_deafOne 22 = .ok (.istore_n 2, 1) := DX8_deafOne _ _ _ rfl
theorem dX8_deafOne_23 : decode cX8_deafOne 23 = .ok (.iload_n 2, 1) := DX8_deafOne _ _ _ rfl
theorem dX8_deafOne_24 : decode cX8_deafOne 24 = .ok (.iconst (-1), 1) := DX8_deafOne _ _ _ rfl
theorem dX8_deafOne_25 : decode cX8_deafOne 25 = .ok (.if_icmp .ne 5, 3) := DX8_deafOne _ _ _ rfl
theorem dX8_deafOne_30 : decode cX8_deafOne 30 = .ok (.aload_n 1, 1) := DX8_deafOne _ _ _ rfl
theorem dX8_deafOne_31 : decode cX8_deafOne 31 = .ok (.dup, 1) := DX8_deafOne _ _ _ rfl
theorem m_290 : (Cond.fieldLinkNest "NoonValley$Tape" 80 "NoonValley$Valley" "deaf" "I" "NoonValley") ∈ NWS := nw (tb2 50 (by decide +kernel)) (by decide +kernel)
theorem dX8_deafOne_32 : decode cX8_deafOne 32 = .ok (.getfield 80, 3) := DX8_deafOne _ _ _ rfl
theorem dX8_deafOne_35 : decode cX8_deafOne 35 = .ok (.iconst 1, 1) := DX8_deafOne _ _ _ rfl
theorem dX8_deafOne_36 : decode cX8_deafOne 36 = .ok (.iload_n 2, 1) := DX8_deafOne _ _ _ rfl
theorem dX8_deafOne_37 : decode cX8_deafOne 37 = .ok (.ishl, 1) := DX8_deafOne _ _ _ rfl
theorem dX8_deafOne_38 : decode cX8_deafOne 38 = .ok (.ior, 1) := DX8_deafOne _ _ _ rfl
theorem dX8_deafOne_39 : decode cX8_deafOne 39 = .ok (.putfield 80, 3) := DX8_deafOne _ _ _ rfl
theorem dX8_deafOne_42 : decode cX8_deafOne 42 = .ok (.iconst 1, 1) := DX8_deafOne _ _ _ rfl
theorem dX8_deafOne_43 : decode cX8_deafOne 43 = .ok (.ireturn, 1) := DX8_deafOne _ _ _ rfl
theorem dX8_deafOne_28 : decode cX8_deafOne 28 = .ok (.iconst 0, 1) := DX8_deafOne _ _ _ rfl
theorem dX8_deafOne_29 : decode cX8_deafOne 29 = .ok (.ireturn, 1) := DX8_deafOne _ _ _ rfl
theorem m_470 : (Cond.code yX8_newsOf prog_10_method_11_code 5 (Option.some FieldType.boolean)) ∈ BW := bw (tb2 230 rfl) (by decide +kernel)
theorem dX8_newsOf_0 : decode cX8_newsOf 0 = .ok (.aload_n 0, 1) := DX8_newsOf _ _ _ rfl
theorem dX8_newsOf_1 : decode cX8_newsOf 1 = .ok (.dup, 1) := DX8_newsOf _ _ _ rfl
theorem dX8_newsOf_2 : decode cX8_newsOf 2 = .ok (.getfield 27, 3) := DX8_newsOf _ _ _ rfl
theorem dX8_newsOf_5 : decode cX8_newsOf 5 = .ok (.iconst 1, 1) := DX8_newsOf _ _ _ rfl
theorem dX8_newsOf_6 : decode cX8_newsOf 6 = .ok (.iadd, 1) := DX8_newsOf _ _ _ rfl
theorem dX8_newsOf_7 : decode cX8_newsOf 7 = .ok (.putfield 27, 3) := DX8_newsOf _ _ _ rfl
theorem dX8_newsOf_10 : decode cX8_newsOf 10 = .ok (.aload_n 0, 1) := DX8_newsOf _ _ _ rfl
theorem dX8_newsOf_11 : decode cX8_newsOf 11 = .ok (.iconst 0, 1) := DX8_newsOf _ _ _ rfl
theorem dX8_newsOf_12 : decode cX8_newsOf 12 = .ok (.aload_n 1, 1) := DX8_newsOf _ _ _ rfl
theorem dX8_newsOf_13 : decode cX8_newsOf 13 = .ok (.getfield 45, 3) := DX8_newsOf _ _ _ rfl
theorem dX8_newsOf_16 : decode cX8_newsOf 16 = .ok (.iconst 1, 1) := DX8_newsOf _ _ _ rfl
theorem dX8_newsOf_17 : decode cX8_newsOf 17 = .ok (.isub, 1) := DX8_newsOf _ _ _ rfl
theorem dX8_newsOf_18 : decode cX8_newsOf 18 = .ok (.iconst (-1), 1) := DX8_newsOf _ _ _ rfl
theorem dX8_newsOf_19 : decode cX8_newsOf 19 = .ok (.invokevirtual 41, 3) := DX8_newsOf _ _ _ rfl
theorem dX8_newsOf_22 : decode cX8_newsOf 22 = .ok (.istore_n 3, 1) := DX8_newsOf _ _ _ rfl
theorem dX8_newsOf_23 : decode cX8_newsOf 23 = .ok (.iload_n 3, 1) := DX8_newsOf _ _ _ rfl
theorem dX8_newsOf_24 : decode cX8_newsOf 24 = .ok (.iconst (-1), 1) := DX8_newsOf _ _ _ rfl
theorem dX8_newsOf_25 : decode cX8_newsOf 25 = .ok (.if_icmp .ne 5, 3) := DX8_newsOf _ _ _ rfl
theorem dX8_newsOf_30 : decode cX8_newsOf 30 = .ok (.aload_n 0, 1) := DX8_newsOf _ _ _ rfl
theorem dX8_newsOf_31 : decode cX8_newsOf 31 = .ok (.iconst 0, 1) := DX8_newsOf _ _ _ rfl
theorem dX8_newsOf_32 : decode cX8_newsOf 32 = .ok (.iconst 3, 1) := DX8_newsOf _ _ _ rfl
theorem dX8_newsOf_33 : decode cX8_newsOf 33 = .ok (.iconst (-1), 1) := DX8_newsOf _ _ _ rfl
theorem dX8_newsOf_34 : decode cX8_newsOf 34 = .ok (.invokevirtual 41, 3) := DX8_newsOf _ _ _ rfl
theorem dX8_newsOf_37 : decode cX8_newsOf 37 = .ok (.istore 4, 2) := DX8_newsOf _ _ _ rfl
theorem dX8_newsOf_39 : decode cX8_newsOf 39 = .ok (.iload 4, 2) := DX8_newsOf _ _ _ rfl
theorem dX8_newsOf_41 : decode cX8_newsOf 41 = .ok (.ifCond .lt 10, 3) := DX8_newsOf _ _ _ rfl
theorem dX8_newsOf_51 : decode cX8_newsOf 51 = .ok (.iconst 0, 1) := DX8_newsOf _ _ _ rfl
theorem dX8_newsOf_52 : decode cX8_newsOf 52 = .ok (.ireturn, 1) := DX8_newsOf _ _ _ rfl
theorem dX8_newsOf_44 : decode cX8_newsOf 44 = .ok (.iload 4, 2) := DX8_newsOf _ _ _ rfl
theorem dX8_newsOf_46 : decode cX8_newsOf 46 = .ok (.aload_n 2, 1) := DX8_newsOf _ _ _ rfl
theorem dX8_newsOf_47 : decode cX8_newsOf 47 = .ok (.arraylength, 1) := DX8_newsOf _ _ _ rfl
theorem dX8_newsOf_48 : decode cX8_newsOf 48 = .ok (.if_icmp .lt 5, 3) := DX8_newsOf _ _ _ rfl
theorem dX8_newsOf_53 : decode cX8_newsOf 53 = .ok (.aload_n 2, 1) := DX8_newsOf _ _ _ rfl
theorem dX8_newsOf_54 : decode cX8_newsOf 54 = .ok (.iload 4, 2) := DX8_newsOf _ _ _ rfl
theorem dX8_newsOf_56 : decode cX8_newsOf 56 = .ok (.dup2, 1) := DX8_newsOf _ _ _ rfl
theorem dX8_newsOf_57 : decode cX8_newsOf 57 = .ok (.iaload, 1) := DX8_newsOf _ _ _ rfl
theorem dX8_newsOf_58 : decode cX8_newsOf 58 = .ok (.iconst 1, 1) := DX8_newsOf _ _ _ rfl
theorem dX8_newsOf_59 : decode cX8_newsOf 59 = .ok (.iload_n 3, 1) := DX8_newsOf _ _ _ rfl
theorem dX8_newsOf_60 : decode cX8_newsOf 60 = .ok (.ishl, 1) := DX8_newsOf _ _ _ rfl
theorem dX8_newsOf_61 : decode cX8_newsOf 61 = .ok (.ior, 1) := DX8_newsOf _ _ _ rfl
theorem dX8_newsOf_62 : decode cX8_newsOf 62 = .ok (.iastore, 1) := DX8_newsOf _ _ _ rfl
theorem dX8_newsOf_63 : decode cX8_newsOf 63 = .ok (.iconst 1, 1) := DX8_newsOf _ _ _ rfl
theorem dX8_newsOf_64 : decode cX8_newsOf 64 = .ok (.ireturn, 1) := DX8_newsOf _ _ _ rfl
theorem dX8_newsOf_28 : decode cX8_newsOf 28 = .ok (.iconst 0, 1) := DX8_newsOf _ _ _ rfl
theorem dX8_newsOf_29 : decode cX8_newsOf 29 = .ok (.ireturn, 1) := DX8_newsOf _ _ _ rfl
set_option maxHeartbeats 4000000 in
set_option maxRecDepth 100000 in
theorem C_X8_deafOneG (l : Launch) (g : GG) (h0 q : Nat) (f0 : Nat → Int32) (n0 : Nat) (hn0 : n0 ≤ 400) (v v3 v4 v5 v6 v7 v8 v9 v10 v11 v12 v13 v15 : Nat) (pe lc de gl : Int32) (k0 : Nat) (hk0 : k0 < n0) : MetI l g yX8_deafOne cX8_deafOne 3 (some .boolean) 3 0 0 [.ref h0, .ref v] [(h0, .inr (8, [.ref q, .int (nI n0), .int (nI k0)])), (q, .inl (g.2.1 1, 400, .inl f0)), (v, .inr (10, [.int pe, .int lc, .int de, .ref v3, .ref v4, .ref v5, .ref v6, .ref v7, .ref v8, .ref v9, .ref v10, .ref v11, .ref v12, .ref v13, .int gl, .ref v15]))] (fun r u => r = (if numr n0 f0 (k0 + 1) 0 (pe - 1) (-1) = -1 then 0 else 1) ∧ u = [(h0, .inr (8, [.ref q, .int (nI n0), .int (nI (nump n0 f0 (k0 + 1) 0 (pe - 1) (-1)))])), (q, .inl (g.2.1 1, 400, .inl f0)), (v, .inr (10, [.int pe, .int lc, .int (if numr n0 f0 (k0 + 1) 0 (pe - 1) (-1) = -1 then de else de ||| ((1 : Int32) <<< (numr n0 f0 (k0 + 1) 0 (pe - 1) (-1) &&& 31))), .ref v3, .ref v4, .ref v5, .ref v6, .ref v7, .ref v8, .ref v9, .ref v10, .ref v11, .ref v12, .ref v13, .int gl, .ref v15]))]) := by
  refine MetI.of (own := RX8) rfl (by decide) (Nat.le_of_ble_eq_true rfl) ?_
  intro p e s m below meth c A ls args Q hQ X hr hin hW hl
  have hx := X.1
  have hb := X.2.1
  have hl : lv_has ls 3 [(0, .ref h0), (1, .ref v)] := hl
  refine lv_aload_n (pc := 0) hx hb dX8_deafOne_0 rfl (lv_at hl 0 rfl) ?_
  refine lv_dup (pc := 1) hx hb dX8_deafOne_1 rfl ?_
  refine r_get X hW 0 ciX8 2 rfl (by decide) m_39 rfl rfl dX8_deafOne_2 ?_
  refine lv_iconst (v := 1) (pc := 5) hx hb dX8_deafOne_5 (by decide) ?_
  refine lv_iadd (pc := 6) hx hb dX8_deafOne_6 ?_
  refine lv_topi (fun v1 ev1 => ?_)
  obtain rfl : v1 = nI (k0 + 1) := ev1.trans (nI_1 k0)
  refine r_put (ws' := [(h0, .inr (8, [.ref q, .int (nI n0), .int (nI (k0 + 1))])), (q, .inl (g.2.1 1, 400, .inl f0)), (v, .inr (10, [.int pe, .int lc, .int de, .ref v3, .ref v4, .ref v5, .ref v6, .ref v7, .ref v8, .ref v9, .ref v10, .ref v11, .ref v12, .ref v13, .int gl, .ref v15]))]) X hW 0 ciX8 2 rfl (by decide) m_39 rfl rfl rfl rfl (Nat.le_of_ble_eq_true rfl) rfl dX8_deafOne_7 (fun H locs hW => ?_)
  refine lv_aload_n (pc := 10) hx hb dX8_deafOne_10 rfl (lv_at hl 0 rfl) ?_
  refine lv_iconst (v := 0) (pc := 11) hx hb dX8_deafOne_11 (by decide) ?_
  refine lv_aload_n (pc := 12) hx hb dX8_deafOne_12 rfl (lv_at hl 1 rfl) ?_
  refine r_getN X hW 2 ciX10 0 rfl (by decide) m_278 rfl rfl dX8_deafOne_13 ?_
  refine lv_iconst (v := 1) (pc := 16) hx hb dX8_deafOne_16 (by decide) ?_
  refine lv_isub (pc := 17) hx hb dX8_deafOne_17 ?_
  refine lv_topi (fun v2 ev2 => ?_)
  obtain rfl : v2 = pe - 1 := ev2.trans (rfl)
  refine lv_iconst (v := (-1)) (pc := 18) hx hb dX8_deafOne_18 (by decide) ?_
  refine c_Vi (pc := 19) (As := [.int 0, .int (pe - 1), .int (-1)]) (rest := []) (wr := [(v, .inr (10, [.int pe, .int lc, .int de, .ref v3, .ref v4, .ref v5, .ref v6, .ref v7, .ref v8, .ref v9, .ref v10, .ref v11, .ref v12, .ref v13, .int gl, .ref v15]))]) X hW 0 ciX8 rfl (C_X8_numberG l g h0 q f0 n0 hn0 (k0 + 1) 0 (pe - 1) (-1) (by omega)) vX8_41 [0, 1] [2] rfl rfl rfl rfl rfl rfl hl.1 rfl (Nat.le_of_ble_eq_true rfl) ⟨Nat.le_of_ble_eq_true rfl, Nat.le_of_ble_eq_true rfl⟩ ⟨Nat.le_of_ble_eq_true rfl, Nat.le_of_ble_eq_true rfl⟩ dX8_deafOne_19 (fun r3 u9 H locs hq hW => ?_)
  obtain ⟨rfl, rfl⟩ := hq
  have hW : WD g A s _ _ [(v, .inr (10, [.int pe, .int lc, .int de, .ref v3, .ref v4, .ref v5, .ref v6, .ref v7, .ref v8, .ref v9, .ref v10, .ref v11, .ref v12, .ref v13, .int gl, .ref v15])), (h0, .inr (8, [.ref q, .int (nI n0), .int (nI (nump n0 f0 (k0 + 1) 0 (pe - 1) (-1)))])), (q, .inl (g.2.1 1, 400, .inl f0))] := hW
  refine lv_istore_n (lv' := [(2, .int (numr n0 f0 (k0 + 1) 0 (pe - 1) (-1))), (0, .ref h0), (1, .ref v)]) (pc := 22) hx hb dX8_deafOne_22 rfl hl (by decide) rfl (fun ls hl => ?_)
  refine lv_iload_n (pc := 23) hx hb dX8_deafOne_23 rfl (lv_at hl 0 rfl) ?_
  refine lv_iconst (v := (-1)) (pc := 24) hx hb dX8_deafOne_24 (by decide) ?_
  refine lv_icmp_ne (tgt := 30) (pc := 25) hx hb dX8_deafOne_25 rfl (fun c4 => ?_) (fun c4 => ?_)
  · refine lv_aload_n (pc := 30) hx hb dX8_deafOne_30 rfl (lv_at hl 2 rfl) ?_
    refine lv_dup (pc := 31) hx hb dX8_deafOne_31 rfl ?_
    refine r_getN X hW 0 ciX10 2 rfl (by decide) m_290 rfl rfl dX8_deafOne_32 ?_
    refine lv_iconst (v := 1) (pc := 35) hx hb dX8_deafOne_35 (by decide) ?_
    refine lv_iload_n (pc := 36) hx hb dX8_deafOne_36 rfl (lv_at hl 0 rfl) ?_
    refine lv_ishl (pc := 37) hx hb dX8_deafOne_37 ?_
    refine lv_ior (pc := 38) hx hb dX8_deafOne_38 ?_
    refine r_putN (ws' := [(v, .inr (10, [.int pe, .int lc, .int (de ||| (1 <<< ((numr n0 f0 (k0 + 1) 0 (pe - 1) (-1)) &&& 31))), .ref v3, .ref v4, .ref v5, .ref v6, .ref v7, .ref v8, .ref v9, .ref v10, .ref v11, .ref v12, .ref v13, .int gl, .ref v15])), (h0, .inr (8, [.ref q, .int (nI n0), .int (nI (nump n0 f0 (k0 + 1) 0 (pe - 1) (-1)))])), (q, .inl (g.2.1 1, 400, .inl f0))]) X hW 0 ciX10 2 rfl (by decide) m_290 rfl rfl rfl rfl (Nat.le_of_ble_eq_true rfl) rfl dX8_deafOne_39 (fun H locs hW => ?_)
    refine lv_iconst (v := 1) (pc := 42) hx hb dX8_deafOne_42 (by decide) ?_
    exact e_z X hQ hr hW (u := [(h0, .inr (8, [.ref q, .int (nI n0), .int (nI (nump n0 f0 (k0 + 1) 0 (pe - 1) (-1)))])), (q, .inl (g.2.1 1, 400, .inl f0)), (v, .inr (10, [.int pe, .int lc, .int (de ||| (1 <<< ((numr n0 f0 (k0 + 1) 0 (pe - 1) (-1)) &&& 31))), .ref v3, .ref v4, .ref v5, .ref v6, .ref v7, .ref v8, .ref v9, .ref v10, .ref v11, .ref v12, .ref v13, .int gl, .ref v15]))]) rfl [1, 2, 0] rfl rfl (⟨(if_neg c4).symm, by rw [if_neg c4]⟩) ⟨Nat.le_of_ble_eq_true rfl, Nat.le_of_ble_eq_true rfl⟩ dX8_deafOne_43
  · refine lv_iconst (v := 0) (pc := 28) hx hb dX8_deafOne_28 (by decide) ?_
    exact e_z X hQ hr hW (u := [(h0, .inr (8, [.ref q, .int (nI n0), .int (nI (nump n0 f0 (k0 + 1) 0 (pe - 1) (-1)))])), (q, .inl (g.2.1 1, 400, .inl f0)), (v, .inr (10, [.int pe, .int lc, .int de, .ref v3, .ref v4, .ref v5, .ref v6, .ref v7, .ref v8, .ref v9, .ref v10, .ref v11, .ref v12, .ref v13, .int gl, .ref v15]))]) rfl [1, 2, 0] rfl rfl (⟨(if_pos c4).symm, by rw [if_pos c4]⟩) ⟨Nat.le_of_ble_eq_true rfl, Nat.le_of_ble_eq_true rfl⟩ dX8_deafOne_29

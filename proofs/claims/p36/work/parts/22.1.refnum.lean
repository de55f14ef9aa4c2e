theorem m_1459 : (Cond.code yX12_number prog_14_method_12_code 4 (Option.some FieldType.boolean)) ∈ BW := bw (tb7 19 rfl) (by decide +kernel)
theorem dX12_number_0 : decode cX12_number 0 = .ok (.aload_n 0, 1) := DX12_number _ _ _ rfl
theorem dX12_number_1 : decode cX12_number 1 = .ok (.invokevirtual 177, 3) := DX12_number _ _ _ rfl
theorem dX12_number_4 : decode cX12_number 4 = .ok (.bipush 32, 2) := DX12_number _ _ _ rfl
theorem dX12_number_6 : decode cX12_number 6 = .ok (.if_icmp .eq 12, 3) := DX12_number _ _ _ rfl
theorem dX12_number_18 : decode cX12_number 18 = .ok (.aload_n 0, 1) := DX12_number _ _ _ rfl
theorem dX12_number_19 : decode cX12_number 19 = .ok (.invokevirtual 188, 3) := DX12_number _ _ _ rfl
theorem dX12_number_22 : decode cX12_number 22 = .ok (.pop, 1) := DX12_number _ _ _ rfl
theorem dX12_number_23 : decode cX12_number 23 = .ok (.aload_n 0, 1) := DX12_number _ _ _ rfl
theorem m_1460 : (Cond.methodLink "NoonValleyModel" 191 yX12_isDigit) ∈ BW := bw (tb7 20 rfl) (by decide +kernel)
theorem m_1462 : (Cond.instanceMethod yX12_isDigit) ∈ BW := bw (tb7 22 rfl) (by decide +kernel)
theorem s_4_9 : (Cond.selects RX12 yX12_isDigit yX12_isDigit) ∈ BW := bw (sl4 (y := yX12_isDigit) (n := 64) 9 (by decide +kernel)) (by decide +kernel)
theorem vX12_191 : LV RX12 191 RX12 yX12_isDigit cX12_isDigit 1 (some .boolean) 0 := ⟨m_1460, m_1462, s_4_9, m_12, m_1463, rfl, by decide, by decide, by decide +kernel⟩
theorem dX12_number_24 : decode cX12_number 24 = .ok (.invokevirtual 191, 3) := DX12_number _ _ _ rfl
theorem dX12_number_27 : decode cX12_number 27 = .ok (.ifCond .ne 12, 3) := DX12_number _ _ _ rfl
theorem dX12_number_96 : decode cX12_number 96 = .ok (.aload_n 0, 1) := DX12_number _ _ _ rfl
theorem m_1236 : (Cond.fieldLink "NoonValleyModel" 195 "NoonValleyModel" "number" "I") ∈ BW := bw (tb6 36 rfl) (by decide +kernel)
theorem dX12_number_97 : decode cX12_number 97 = .ok (.getfield 195, 3) := DX12_number _ _ _ rfl
theorem dX12_number_100 : decode cX12_number 100 = .ok (.iload_n 1, 1) := DX12_number _ _ _ rfl
theorem dX12_number_101 : decode cX12_number 101 = .ok (.iload_n 2, 1) := DX12_number _ _ _ rfl
theorem dX12_number_102 : decode cX12_number 102 = .ok (.invokestatic 198, 3) := DX12_number _ _ _ rfl
theorem dX12_number_105 : decode cX12_number 105 = .ok (.ifCond .eq 11, 3) := DX12_number _ _ _ rfl
theorem dX12_number_116 : decode cX12_number 116 = .ok (.aload_n 0, 1) := DX12_number _ _ _ rfl
theorem dX12_number_117 : decode cX12_number 117 = .ok (.aload_n 0, 1) := DX12_number _ _ _ rfl
theorem dX12_number_118 : decode cX12_number 118 = .ok (.getfield 174, 3) := DX12_number _ _ _ rfl
theorem dX12_number_121 : decode cX12_number 121 = .ok (.iconst 1, 1) := DX12_number _ _ _ rfl
theorem dX12_number_122 : decode cX12_number 122 = .ok (.isub, 1) := DX12_number _ _ _ rfl
theorem dX12_number_123 : decode cX12_number 123 = .ok (.invokevirtual 184, 3) := DX12_number _ _ _ rfl
theorem dX12_number_126 : decode cX12_number 126 = .ok (.ireturn, 1) := DX12_number _ _ _ rfl
theorem dX12_number_108 : decode cX12_number 108 = .ok (.aload_n 0, 1) := DX12_number _ _ _ rfl
theorem dX12_number_109 : decode cX12_number 109 = .ok (.getfield 195, 3) := DX12_number _ _ _ rfl
theorem dX12_number_112 : decode cX12_number 112 = .ok (.iload_n 3, 1) := DX12_number _ _ _ rfl
theorem dX12_number_113 : decode cX12_number 113 = .ok (.if_icmp .ne 14, 3) := DX12_number _ _ _ rfl
theorem dX12_number_127 : decode cX12_number 127 = .ok (.aload_n 0, 1) := DX12_number _ _ _ rfl
theorem dX12_number_128 : decode cX12_number 128 = .ok (.invokevirtual 191, 3) := DX12_number _ _ _ rfl
theorem dX12_number_131 : decode cX12_number 131 = .ok (.ifCond .eq 14, 3) := DX12_number _ _ _ rfl
theorem dX12_number_145 : decode cX12_number 145 = .ok (.iconst 1, 1) := DX12_number _ _ _ rfl
theorem dX12_number_146 : decode cX12_number 146 = .ok (.goto 4, 3) := DX12_number _ _ _ rfl
theorem dX12_number_150 : decode cX12_number 150 = .ok (.ireturn, 1) := DX12_number _ _ _ rfl
theorem dX12_number_134 : decode cX12_number 134 = .ok (.aload_n 0, 1) := DX12_number _ _ _ rfl
theorem dX12_number_135 : decode cX12_number 135 = .ok (.aload_n 0, 1) := DX12_number _ _ _ rfl
theorem dX12_number_136 : decode cX12_number 136 = .ok (.getfield 174, 3) := DX12_number _ _ _ rfl
theorem dX12_number_139 : decode cX12_number 139 = .ok (.invokevirtual 184, 3) := DX12_number _ _ _ rfl
theorem dX12_number_142 : decode cX12_number 142 = .ok (.ifCond .eq 7, 3) := DX12_number _ _ _ rfl
theorem dX12_number_149 : decode cX12_number 149 = .ok (.iconst 0, 1) := DX12_number _ _ _ rfl
theorem dX12_number_39 : decode cX12_number 39 = .ok (.aload_n 0, 1) := DX12_number _ _ _ rfl
theorem dX12_number_40 : decode cX12_number 40 = .ok (.aload_n 0, 1) := DX12_number _ _ _ rfl
theorem dX12_number_41 : decode cX12_number 41 = .ok (.invokevirtual 177, 3) := DX12_number _ _ _ rfl
theorem dX12_number_44 : decode cX12_number 44 = .ok (.bipush 48, 2) := DX12_number _ _ _ rfl
theorem dX12_number_46 : decode cX12_number 46 = .ok (.isub, 1) := DX12_number _ _ _ rfl
theorem dX12_number_47 : decode cX12_number 47 = .ok (.putfield 195, 3) := DX12_number _ _ _ rfl
theorem dX12_number_50 : decode cX12_number 50 = .ok (.aload_n 0, 1) := DX12_number _ _ _ rfl
theorem dX12_number_51 : decode cX12_number 51 = .ok (.dup, 1) := DX12_number _ _ _ rfl
theorem dX12_number_52 : decode cX12_number 52 = .ok (.getfield 174, 3) := DX12_number _ _ _ rfl
theorem dX12_number_55 : decode cX12_number 55 = .ok (.iconst 1, 1) := DX12_number _ _ _ rfl
theorem dX12_number_56 : decode cX12_number 56 = .ok (.iadd, 1) := DX12_number _ _ _ rfl
theorem dX12_number_57 : decode cX12_number 57 = .ok (.putfield 174, 3) := DX12_number _ _ _ rfl
theorem dX12_number_60 : decode cX12_number 60 = .ok (.aload_n 0, 1) := DX12_number _ _ _ rfl
theorem dX12_number_61 : decode cX12_number 61 = .ok (.invokevirtual 191, 3) := DX12_number _ _ _ rfl
theorem dX12_number_64 : decode cX12_number 64 = .ok (.ifCond .eq 32, 3) := DX12_number _ _ _ rfl
theorem dX12_number_67 : decode cX12_number 67 = .ok (.aload_n 0, 1) := DX12_number _ _ _ rfl
theorem dX12_number_68 : decode cX12_number 68 = .ok (.bipush 10, 2) := DX12_number _ _ _ rfl
theorem dX12_number_70 : decode cX12_number 70 = .ok (.aload_n 0, 1) := DX12_number _ _ _ rfl
theorem dX12_number_71 : decode cX12_number 71 = .ok (.getfield 195, 3) := DX12_number _ _ _ rfl
theorem dX12_number_74 : decode cX12_number 74 = .ok (.imul, 1) := DX12_number _ _ _ rfl
theorem dX12_number_75 : decode cX12_number 75 = .ok (.aload_n 0, 1) := DX12_number _ _ _ rfl
theorem dX12_number_76 : decode cX12_number 76 = .ok (.invokevirtual 177, 3) := DX12_number _ _ _ rfl
theorem dX12_number_79 : decode cX12_number 79 = .ok (.iadd, 1) := DX12_number _ _ _ rfl
theorem dX12_number_80 : decode cX12_number 80 = .ok (.bipush 48, 2) := DX12_number _ _ _ rfl
theorem dX12_number_82 : decode cX12_number 82 = .ok (.isub, 1) := DX12_number _ _ _ rfl
theorem dX12_number_83 : decode cX12_number 83 = .ok (.putfield 195, 3) := DX12_number _ _ _ rfl
theorem dX12_number_86 : decode cX12_number 86 = .ok (.aload_n 0, 1) := DX12_number _ _ _ rfl
theorem dX12_number_87 : decode cX12_number 87 = .ok (.dup, 1) := DX12_number _ _ _ rfl
theorem dX12_number_88 : decode cX12_number 88 = .ok (.getfield 174, 3) := DX12_number _ _ _ rfl
theorem dX12_number_91 : decode cX12_number 91 = .ok (.iconst 1, 1) := DX12_number _ _ _ rfl
theorem dX12_number_92 : decode cX12_number 92 = .ok (.iadd, 1) := DX12_number _ _ _ rfl
theorem dX12_number_93 : decode cX12_number 93 = .ok (.putfield 174, 3) := DX12_number _ _ _ rfl
theorem dX12_number_30 : decode cX12_number 30 = .ok (.aload_n 0, 1) := DX12_number _ _ _ rfl
theorem dX12_number_31 : decode cX12_number 31 = .ok (.aload_n 0, 1) := DX12_number _ _ _ rfl
theorem dX12_number_32 : decode cX12_number 32 = .ok (.getfield 174, 3) := DX12_number _ _ _ rfl
theorem dX12_number_35 : decode cX12_number 35 = .ok (.invokevirtual 184, 3) := DX12_number _ _ _ rfl
theorem dX12_number_38 : decode cX12_number 38 = .ok (.ireturn, 1) := DX12_number _ _ _ rfl
theorem dX12_number_9 : decode cX12_number 9 = .ok (.aload_n 0, 1) := DX12_number _ _ _ rfl
theorem dX12_number_10 : decode cX12_number 10 = .ok (.aload_n 0, 1) := DX12_number _ _ _ rfl
theorem dX12_number_11 : decode cX12_number 11 = .ok (.getfield 174, 3) := DX12_number _ _ _ rfl
theorem dX12_number_14 : decode cX12_number 14 = .ok (.invokevirtual 184, 3) := DX12_number _ _ _ rfl
theorem dX12_number_17 : decode cX12_number 17 = .ok (.ireturn, 1) := DX12_number _ _ _ rfl
set_option maxHeartbeats 40000000 in
set_option maxRecDepth 100000 in
theorem C_X12_numberG (l : Launch) (g : GG) (h0 b1 b6 b7 b8 b9 b10 b11 b12 b13 b14 b15 b16 b17 b21 b22 b23 b24 b25 b26 b28 b29 b30 b31 b32 b33 b34 b35 b36 b46 b47 b48 b49 b50 b51 b52 b53 b54 b55 b56 b57 b58 b59 b60 b61 b62 b63 : Nat) (i0 i4 i5 i18 i19 i20 i27 i37 i38 i39 i40 i41 i42 i43 i44 i45 : Int32) (f0 : Nat → Int32) (n0 : Nat) (hn0 : n0 ≤ 400) (k0 : Nat) (lo hi un : Int32) (hk0 : k0 ≤ n0) : MetI l g yX12_number cX12_number 4 (some .boolean) 2 0 0 [.ref h0, .int lo, .int hi, .int un] [(h0, .inr (12, [.int i0, .ref b1, .int (nI n0), .int (nI k0), .int i4, .int i5, .ref b6, .ref b7, .ref b8, .ref b9, .ref b10, .ref b11, .ref b12, .ref b13, .ref b14, .ref b15, .ref b16, .ref b17, .int i18, .int i19, .int i20, .ref b21, .ref b22, .ref b23, .ref b24, .ref b25, .ref b26, .int i27, .ref b28, .ref b29, .ref b30, .ref b31, .ref b32, .ref b33, .ref b34, .ref b35, .ref b36, .int i37, .int i38, .int i39, .int i40, .int i41, .int i42, .int i43, .int i44, .int i45, .ref b46, .ref b47, .ref b48, .ref b49, .ref b50, .ref b51, .ref b52, .ref b53, .ref b54, .ref b55, .ref b56, .ref b57, .ref b58, .ref b59, .ref b60, .ref b61, .ref b62, .ref b63])), (b1, .inl (g.2.1 0, 400, .inl f0))] (fun r u => r = rnr n0 (ub f0) k0 lo hi un ∧ u = [(h0, .inr (12, [.int i0, .ref b1, .int (nI n0), .int (nI (rna n0 (ub f0) k0)), .int (rnf n0 (ub f0) k0 lo hi un i4), .int (rnv n0 (ub f0) k0 i5), .ref b6, .ref b7, .ref b8, .ref b9, .ref b10, .ref b11, .ref b12, .ref b13, .ref b14, .ref b15, .ref b16, .ref b17, .int i18, .int i19, .int i20, .ref b21, .ref b22, .ref b23, .ref b24, .ref b25, .ref b26, .int i27, .ref b28, .ref b29, .ref b30, .ref b31, .ref b32, .ref b33, .ref b34, .ref b35, .ref b36, .int i37, .int i38, .int i39, .int i40, .int i41, .int i42, .int i43, .int i44, .int i45, .ref b46, .ref b47, .ref b48, .ref b49, .ref b50, .ref b51, .ref b52, .ref b53, .ref b54, .ref b55, .ref b56, .ref b57, .ref b58, .ref b59, .ref b60, .ref b61, .ref b62, .ref b63])), (b1, .inl (g.2.1 0, 400, .inl f0))]) := by
  refine MetI.of (own := RX12) rfl (by decide) (Nat.le_of_ble_eq_true rfl) ?_
  intro p e s m below meth c A ls args Q hQ X hr hin hW hl
  have hx := X.1
  have hb := X.2.1
  have hl : lv_has ls 4 [(0, .ref h0), (1, .int lo), (2, .int hi), (3, .int un)] := hl
  have hs := skn_le (f := ub f0) hk0
  refine lv_aload_n (pc := 0) hx hb dX12_number_0 rfl (lv_at hl 0 rfl) ?_
  refine c_Vi (pc := 1) (As := []) (rest := []) (wr := []) X hW 0 ciX12 rfl (C_X12_hereG l g h0 b1 b6 b7 b8 b9 b10 b11 b12 b13 b14 b15 b16 b17 b21 b22 b23 b24 b25 b26 b28 b29 b30 b31 b32 b33 b34 b35 b36 b46 b47 b48 b49 b50 b51 b52 b53 b54 b55 b56 b57 b58 b59 b60 b61 b62 b63 i0 i4 i5 i18 i19 i20 i27 i37 i38 i39 i40 i41 i42 i43 i44 i45 f0 n0 hn0 k0 (by omega)) vX12_177 [0, 1] [] rfl rfl rfl rfl rfl rfl hl.1 rfl (Nat.le_of_ble_eq_true rfl) ⟨Nat.le_of_ble_eq_true rfl, Nat.le_of_ble_eq_true rfl⟩ ⟨Nat.le_of_ble_eq_true rfl, Nat.le_of_ble_eq_true rfl⟩ dX12_number_1 (fun r1 u9 H locs hq hW => ?_)
  obtain ⟨rfl, rfl⟩ := hq
  have hW : WD g A s _ _ [(h0, .inr (12, [.int i0, .ref b1, .int (nI n0), .int (nI k0), .int i4, .int i5, .ref b6, .ref b7, .ref b8, .ref b9, .ref b10, .ref b11, .ref b12, .ref b13, .ref b14, .ref b15, .ref b16, .ref b17, .int i18, .int i19, .int i20, .ref b21, .ref b22, .ref b23, .ref b24, .ref b25, .ref b26, .int i27, .ref b28, .ref b29, .ref b30, .ref b31, .ref b32, .ref b33, .ref b34, .ref b35, .ref b36, .int i37, .int i38, .int i39, .int i40, .int i41, .int i42, .int i43, .int i44, .int i45, .ref b46, .ref b47, .ref b48, .ref b49, .ref b50, .ref b51, .ref b52, .ref b53, .ref b54, .ref b55, .ref b56, .ref b57, .ref b58, .ref b59, .ref b60, .ref b61, .ref b62, .ref b63])), (b1, .inl (g.2.1 0, 400, .inl f0))] := hW
  refine lv_bipush (v := 32) (pc := 4) hx hb dX12_number_4 (by decide) ?_
  refine lv_icmp_eq (tgt := 18) (pc := 6) hx hb dX12_number_6 rfl (fun c2 => ?_) (fun c2 => ?_)
  · have hne : ¬ skn n0 (ub f0) k0 = k0 := fun q => by have h8 := at_bl hn0 hk0 c2; have h9 := skn_s h8.1 h8.2; have h7 := skn_le (f := ub f0) (k := k0 + 1) h8.1; omega
    refine lv_aload_n (pc := 18) hx hb dX12_number_18 rfl (lv_at hl 0 rfl) ?_
    refine c_Vi (pc := 19) (As := []) (rest := []) (wr := []) X hW 0 ciX12 rfl (C_X12_lookG l g h0 b1 b6 b7 b8 b9 b10 b11 b12 b13 b14 b15 b16 b17 b21 b22 b23 b24 b25 b26 b28 b29 b30 b31 b32 b33 b34 b35 b36 b46 b47 b48 b49 b50 b51 b52 b53 b54 b55 b56 b57 b58 b59 b60 b61 b62 b63 i0 i4 i5 i18 i19 i20 i27 i37 i38 i39 i40 i41 i42 i43 i44 i45 f0 n0 hn0 k0 (by omega)) vX12_188 [0, 1] [] rfl rfl rfl rfl rfl rfl hl.1 rfl (Nat.le_of_ble_eq_true rfl) ⟨Nat.le_of_ble_eq_true rfl, Nat.le_of_ble_eq_true rfl⟩ ⟨Nat.le_of_ble_eq_true rfl, Nat.le_of_ble_eq_true rfl⟩ dX12_number_19 (fun r3 u9 H locs hq hW => ?_)
    obtain ⟨rfl, rfl⟩ := hq
    have hW : WD g A s _ _ [(h0, .inr (12, [.int i0, .ref b1, .int (nI n0), .int (nI (skn n0 (ub f0) k0)), .int i4, .int i5, .ref b6, .ref b7, .ref b8, .ref b9, .ref b10, .ref b11, .ref b12, .ref b13, .ref b14, .ref b15, .ref b16, .ref b17, .int i18, .int i19, .int i20, .ref b21, .ref b22, .ref b23, .ref b24, .ref b25, .ref b26, .int i27, .ref b28, .ref b29, .ref b30, .ref b31, .ref b32, .ref b33, .ref b34, .ref b35, .ref b36, .int i37, .int i38, .int i39, .int i40, .int i41, .int i42, .int i43, .int i44, .int i45, .ref b46, .ref b47, .ref b48, .ref b49, .ref b50, .ref b51, .ref b52, .ref b53, .ref b54, .ref b55, .ref b56, .ref b57, .ref b58, .ref b59, .ref b60, .ref b61, .ref b62, .ref b63])), (b1, .inl (g.2.1 0, 400, .inl f0))] := hW
    refine lv_pop (pc := 22) hx hb dX12_number_22 rfl ?_
    refine lv_aload_n (pc := 23) hx hb dX12_number_23 rfl (lv_at hl 0 rfl) ?_
    refine c_Vi (pc := 24) (As := []) (rest := []) (wr := []) X hW 0 ciX12 rfl (C_X12_isDigitG l g h0 b1 b6 b7 b8 b9 b10 b11 b12 b13 b14 b15 b16 b17 b21 b22 b23 b24 b25 b26 b28 b29 b30 b31 b32 b33 b34 b35 b36 b46 b47 b48 b49 b50 b51 b52 b53 b54 b55 b56 b57 b58 b59 b60 b61 b62 b63 i0 i4 i5 i18 i19 i20 i27 i37 i38 i39 i40 i41 i42 i43 i44 i45 f0 n0 hn0 (skn n0 (ub f0) k0) (by omega)) vX12_191 [0, 1] [] rfl rfl rfl rfl rfl rfl hl.1 rfl (Nat.le_of_ble_eq_true rfl) ⟨Nat.le_of_ble_eq_true rfl, Nat.le_of_ble_eq_true rfl⟩ ⟨Nat.le_of_ble_eq_true rfl, Nat.le_of_ble_eq_true rfl⟩ dX12_number_24 (fun r4 u9 H locs hq hW => ?_)
    obtain ⟨rfl, rfl⟩ := hq
    have hW : WD g A s _ _ [(h0, .inr (12, [.int i0, .ref b1, .int (nI n0), .int (nI (skn n0 (ub f0) k0)), .int i4, .int i5, .ref b6, .ref b7, .ref b8, .ref b9, .ref b10, .ref b11, .ref b12, .ref b13, .ref b14, .ref b15, .ref b16, .ref b17, .int i18, .int i19, .int i20, .ref b21, .ref b22, .ref b23, .ref b24, .ref b25, .ref b26, .int i27, .ref b28, .ref b29, .ref b30, .ref b31, .ref b32, .ref b33, .ref b34, .ref b35, .ref b36, .int i37, .int i38, .int i39, .int i40, .int i41, .int i42, .int i43, .int i44, .int i45, .ref b46, .ref b47, .ref b48, .ref b49, .ref b50, .ref b51, .ref b52, .ref b53, .ref b54, .ref b55, .ref b56, .ref b57, .ref b58, .ref b59, .ref b60, .ref b61, .ref b62, .ref b63])), (b1, .inl (g.2.1 0, 400, .inl f0))] := hW
    refine lv_if_ne (tgt := 39) (pc := 27) hx hb dX12_number_27 rfl (fun c5 => ?_) (fun c5 => ?_)
    · have hno : ¬ numNo n0 (ub f0) k0 := fun h9 => h9.elim hne c5
      have hk2 := nk2_le hn0 hk0 hno
      have hk3 := dg_lt hn0 (by omega) c5
      have tail : ∀ (NV : Int32) (NK : Nat), nval n0 (ub f0) k0 = NV → nk2 n0 (ub f0) k0 = NK → ∀ (H : Heap) (locs : List Loc), WD g A s H locs [(h0, .inr (12, [.int i0, .ref b1, .int (nI n0), .int (nI (NK + 1)), .int i4, .int NV, .ref b6, .ref b7, .ref b8, .ref b9, .ref b10, .ref b11, .ref b12, .ref b13, .ref b14, .ref b15, .ref b16, .ref b17, .int i18, .int i19, .int i20, .ref b21, .ref b22, .ref b23, .ref b24, .ref b25, .ref b26, .int i27, .ref b28, .ref b29, .ref b30, .ref b31, .ref b32, .ref b33, .ref b34, .ref b35, .ref b36, .int i37, .int i38, .int i39, .int i40, .int i41, .int i42, .int i43, .int i44, .int i45, .ref b46, .ref b47, .ref b48, .ref b49, .ref b50, .ref b51, .ref b52, .ref b53, .ref b54, .ref b55, .ref b56, .ref b57, .ref b58, .ref b59, .ref b60, .ref b61, .ref b62, .ref b63])), (b1, .inl (g.2.1 0, 400, .inl f0))] → W p l e (RM 2 0 0) s m args below meth c H locs 0 0 Q (F0 m 96 ls []) := by
        intro NV NK hNV hNK H locs hW
        rw [hNK] at hk2
        refine lv_aload_n (pc := 96) hx hb dX12_number_96 rfl (lv_at hl 0 rfl) ?_
        refine r_get X hW 0 ciX12 5 rfl (by decide) m_1236 rfl rfl dX12_number_97 ?_
        refine lv_iload_n (pc := 100) hx hb dX12_number_100 rfl (lv_at hl 1 rfl) ?_
        refine lv_iload_n (pc := 101) hx hb dX12_number_101 rfl (lv_at hl 2 rfl) ?_
        refine c_Si (pc := 102) (As := [.int NV, .int lo, .int hi]) (rest := []) (wr := [(h0, .inr (12, [.int i0, .ref b1, .int (nI n0), .int (nI (NK + 1)), .int i4, .int NV, .ref b6, .ref b7, .ref b8, .ref b9, .ref b10, .ref b11, .ref b12, .ref b13, .ref b14, .ref b15, .ref b16, .ref b17, .int i18, .int i19, .int i20, .ref b21, .ref b22, .ref b23, .ref b24, .ref b25, .ref b26, .int i27, .ref b28, .ref b29, .ref b30, .ref b31, .ref b32, .ref b33, .ref b34, .ref b35, .ref b36, .int i37, .int i38, .int i39, .int i40, .int i41, .int i42, .int i43, .int i44, .int i45, .ref b46, .ref b47, .ref b48, .ref b49, .ref b50, .ref b51, .ref b52, .ref b53, .ref b54, .ref b55, .ref b56, .ref b57, .ref b58, .ref b59, .ref b60, .ref b61, .ref b62, .ref b63])), (b1, .inl (g.2.1 0, 400, .inl f0))]) X hW (C_X12_isIn l g NV lo hi) vX12_198 [] [0, 1] rfl rfl rfl rfl rfl rfl hl.1 rfl (Nat.le_of_ble_eq_true rfl) ⟨Nat.le_of_ble_eq_true rfl, Nat.le_of_ble_eq_true rfl⟩ ⟨Nat.le_of_ble_eq_true rfl, Nat.le_of_ble_eq_true rfl⟩ dX12_number_102 (fun r6 u9 H locs hq hW => ?_)
        obtain ⟨rfl, rfl⟩ := hq
        have hW : WD g A s _ _ [(h0, .inr (12, [.int i0, .ref b1, .int (nI n0), .int (nI (NK + 1)), .int i4, .int NV, .ref b6, .ref b7, .ref b8, .ref b9, .ref b10, .ref b11, .ref b12, .ref b13, .ref b14, .ref b15, .ref b16, .ref b17, .int i18, .int i19, .int i20, .ref b21, .ref b22, .ref b23, .ref b24, .ref b25, .ref b26, .int i27, .ref b28, .ref b29, .ref b30, .ref b31, .ref b32, .ref b33, .ref b34, .ref b35, .ref b36, .int i37, .int i38, .int i39, .int i40, .int i41, .int i42, .int i43, .int i44, .int i45, .ref b46, .ref b47, .ref b48, .ref b49, .ref b50, .ref b51, .ref b52, .ref b53, .ref b54, .ref b55, .ref b56, .ref b57, .ref b58, .ref b59, .ref b60, .ref b61, .ref b62, .ref b63])), (b1, .inl (g.2.1 0, 400, .inl f0))] := hW
        refine lv_if_eq (tgt := 116) (pc := 105) hx hb dX12_number_105 rfl (fun c7 => ?_) (fun c7 => ?_)
        · obtain ⟨e1, e2, e3, e4⟩ := rn_bad (n := n0) (f := ub f0) (k := k0) (lo := lo) (hi := hi) (un := un) (v := i5) (i := i4) hno (by rw [hNV]; have h8 := c7; exact (inv3_no h8).elim Or.inl (fun q => Or.inr (Or.inl q)))
          refine lv_aload_n (pc := 116) hx hb dX12_number_116 rfl (lv_at hl 0 rfl) ?_
          refine lv_aload_n (pc := 117) hx hb dX12_number_117 rfl (lv_at hl 0 rfl) ?_
          refine r_get X hW 0 ciX12 3 rfl (by decide) m_1234 rfl rfl dX12_number_118 ?_
          refine lv_iconst (v := 1) (pc := 121) hx hb dX12_number_121 (by decide) ?_
          refine lv_isub (pc := 122) hx hb dX12_number_122 ?_
          refine lv_topi (fun v8 ev8 => ?_)
          obtain rfl : v8 = nI NK := ev8.trans (nI_m1 _)
          refine c_Vi (pc := 123) (As := [.int (nI NK)]) (rest := []) (wr := [(b1, .inl (g.2.1 0, 400, .inl f0))]) X hW 0 ciX12 rfl (C_X12_failsG l g h0 b1 b6 b7 b8 b9 b10 b11 b12 b13 b14 b15 b16 b17 b21 b22 b23 b24 b25 b26 b28 b29 b30 b31 b32 b33 b34 b35 b36 b46 b47 b48 b49 b50 b51 b52 b53 b54 b55 b56 b57 b58 b59 b60 b61 b62 b63 i0 (nI n0) (nI (NK + 1)) i4 NV i18 i19 i20 i27 i37 i38 i39 i40 i41 i42 i43 i44 i45 (nI NK)) vX12_184 [0] [1] rfl rfl rfl rfl rfl rfl hl.1 rfl (Nat.le_of_ble_eq_true rfl) ⟨Nat.le_of_ble_eq_true rfl, Nat.le_of_ble_eq_true rfl⟩ ⟨Nat.le_of_ble_eq_true rfl, Nat.le_of_ble_eq_true rfl⟩ dX12_number_123 (fun r9 u9 H locs hq hW => ?_)
          obtain ⟨rfl, rfl⟩ := hq
          have hW : WD g A s _ _ [(b1, .inl (g.2.1 0, 400, .inl f0)), (h0, .inr (12, [.int i0, .ref b1, .int (nI n0), .int (nI (NK + 1)), .int (fl i4 (nI NK)), .int NV, .ref b6, .ref b7, .ref b8, .ref b9, .ref b10, .ref b11, .ref b12, .ref b13, .ref b14, .ref b15, .ref b16, .ref b17, .int i18, .int i19, .int i20, .ref b21, .ref b22, .ref b23, .ref b24, .ref b25, .ref b26, .int i27, .ref b28, .ref b29, .ref b30, .ref b31, .ref b32, .ref b33, .ref b34, .ref b35, .ref b36, .int i37, .int i38, .int i39, .int i40, .int i41, .int i42, .int i43, .int i44, .int i45, .ref b46, .ref b47, .ref b48, .ref b49, .ref b50, .ref b51, .ref b52, .ref b53, .ref b54, .ref b55, .ref b56, .ref b57, .ref b58, .ref b59, .ref b60, .ref b61, .ref b62, .ref b63]))] := hW
          exact e_z X hQ hr hW (u := [(h0, .inr (12, [.int i0, .ref b1, .int (nI n0), .int (nI (NK + 1)), .int (fl i4 (nI NK)), .int NV, .ref b6, .ref b7, .ref b8, .ref b9, .ref b10, .ref b11, .ref b12, .ref b13, .ref b14, .ref b15, .ref b16, .ref b17, .int i18, .int i19, .int i20, .ref b21, .ref b22, .ref b23, .ref b24, .ref b25, .ref b26, .int i27, .ref b28, .ref b29, .ref b30, .ref b31, .ref b32, .ref b33, .ref b34, .ref b35, .ref b36, .int i37, .int i38, .int i39, .int i40, .int i41, .int i42, .int i43, .int i44, .int i45, .ref b46, .ref b47, .ref b48, .ref b49, .ref b50, .ref b51, .ref b52, .ref b53, .ref b54, .ref b55, .ref b56, .ref b57, .ref b58, .ref b59, .ref b60, .ref b61, .ref b62, .ref b63])), (b1, .inl (g.2.1 0, 400, .inl f0))]) rfl [1, 0] rfl rfl (⟨e1.symm, by rw [e2, e3, e4]; (try rw [hNK]); (try rw [hNV])⟩) ⟨Nat.le_of_ble_eq_true rfl, Nat.le_of_ble_eq_true rfl⟩ dX12_number_126
        · have hi3 := c7
          refine lv_aload_n (pc := 108) hx hb dX12_number_108 rfl (lv_at hl 0 rfl) ?_
          refine r_get X hW 0 ciX12 5 rfl (by decide) m_1236 rfl rfl dX12_number_109 ?_
          refine lv_iload_n (pc := 112) hx hb dX12_number_112 rfl (lv_at hl 3 rfl) ?_
          refine lv_icmp_ne (tgt := 127) (pc := 113) hx hb dX12_number_113 rfl (fun c10 => ?_) (fun c10 => ?_)
          · have hnb : ¬ numBad (nval n0 (ub f0) k0) lo hi un := by rw [hNV]; exact fun h9 => h9.elim (fun q => (inv3_yes hi3).1 q) (fun h9 => h9.elim (fun q => (inv3_yes hi3).2 q) c10)
            refine lv_aload_n (pc := 127) hx hb dX12_number_127 rfl (lv_at hl 0 rfl) ?_
            refine c_Vi (pc := 128) (As := []) (rest := []) (wr := []) X hW 0 ciX12 rfl (C_X12_isDigitG l g h0 b1 b6 b7 b8 b9 b10 b11 b12 b13 b14 b15 b16 b17 b21 b22 b23 b24 b25 b26 b28 b29 b30 b31 b32 b33 b34 b35 b36 b46 b47 b48 b49 b50 b51 b52 b53 b54 b55 b56 b57 b58 b59 b60 b61 b62 b63 i0 i4 NV i18 i19 i20 i27 i37 i38 i39 i40 i41 i42 i43 i44 i45 f0 n0 hn0 (NK + 1) (by omega)) vX12_191 [0, 1] [] rfl rfl rfl rfl rfl rfl hl.1 rfl (Nat.le_of_ble_eq_true rfl) ⟨Nat.le_of_ble_eq_true rfl, Nat.le_of_ble_eq_true rfl⟩ ⟨Nat.le_of_ble_eq_true rfl, Nat.le_of_ble_eq_true rfl⟩ dX12_number_128 (fun r11 u9 H locs hq hW => ?_)
            obtain ⟨rfl, rfl⟩ := hq
            have hW : WD g A s _ _ [(h0, .inr (12, [.int i0, .ref b1, .int (nI n0), .int (nI (NK + 1)), .int i4, .int NV, .ref b6, .ref b7, .ref b8, .ref b9, .ref b10, .ref b11, .ref b12, .ref b13, .ref b14, .ref b15, .ref b16, .ref b17, .int i18, .int i19, .int i20, .ref b21, .ref b22, .ref b23, .ref b24, .ref b25, .ref b26, .int i27, .ref b28, .ref b29, .ref b30, .ref b31, .ref b32, .ref b33, .ref b34, .ref b35, .ref b36, .int i37, .int i38, .int i39, .int i40, .int i41, .int i42, .int i43, .int i44, .int i45, .ref b46, .ref b47, .ref b48, .ref b49, .ref b50, .ref b51, .ref b52, .ref b53, .ref b54, .ref b55, .ref b56, .ref b57, .ref b58, .ref b59, .ref b60, .ref b61, .ref b62, .ref b63])), (b1, .inl (g.2.1 0, 400, .inl f0))] := hW
            refine lv_if_eq (tgt := 145) (pc := 131) hx hb dX12_number_131 rfl (fun c12 => ?_) (fun c12 => ?_)
            · obtain ⟨e1, e2, e3, e4⟩ := rn_ok (n := n0) (f := ub f0) (k := k0) (lo := lo) (hi := hi) (un := un) (v := i5) (i := i4) hno hnb (by rw [hNK]; exact c12)
              refine lv_iconst (v := 1) (pc := 145) hx hb dX12_number_145 (by decide) ?_
              refine lv_goto (tgt := 150) (pc := 146) hx hb dX12_number_146 rfl ?_
              exact e_z X hQ hr hW (u := [(h0, .inr (12, [.int i0, .ref b1, .int (nI n0), .int (nI (NK + 1)), .int i4, .int NV, .ref b6, .ref b7, .ref b8, .ref b9, .ref b10, .ref b11, .ref b12, .ref b13, .ref b14, .ref b15, .ref b16, .ref b17, .int i18, .int i19, .int i20, .ref b21, .ref b22, .ref b23, .ref b24, .ref b25, .ref b26, .int i27, .ref b28, .ref b29, .ref b30, .ref b31, .ref b32, .ref b33, .ref b34, .ref b35, .ref b36, .int i37, .int i38, .int i39, .int i40, .int i41, .int i42, .int i43, .int i44, .int i45, .ref b46, .ref b47, .ref b48, .ref b49, .ref b50, .ref b51, .ref b52, .ref b53, .ref b54, .ref b55, .ref b56, .ref b57, .ref b58, .ref b59, .ref b60, .ref b61, .ref b62, .ref b63])), (b1, .inl (g.2.1 0, 400, .inl f0))]) rfl [0, 1] rfl rfl (⟨e1.symm, by rw [e2, e3, e4]; (try rw [hNK]); (try rw [hNV])⟩) ⟨Nat.le_of_ble_eq_true rfl, Nat.le_of_ble_eq_true rfl⟩ dX12_number_150
            · obtain ⟨e1, e2, e3, e4⟩ := rn_dig (n := n0) (f := ub f0) (k := k0) (lo := lo) (hi := hi) (un := un) (v := i5) (i := i4) hno hnb (by rw [hNK]; exact c12)
              refine lv_aload_n (pc := 134) hx hb dX12_number_134 rfl (lv_at hl 0 rfl) ?_
              refine lv_aload_n (pc := 135) hx hb dX12_number_135 rfl (lv_at hl 0 rfl) ?_
              refine r_get X hW 0 ciX12 3 rfl (by decide) m_1234 rfl rfl dX12_number_136 ?_
              refine c_Vi (pc := 139) (As := [.int (nI (NK + 1))]) (rest := []) (wr := [(b1, .inl (g.2.1 0, 400, .inl f0))]) X hW 0 ciX12 rfl (C_X12_failsG l g h0 b1 b6 b7 b8 b9 b10 b11 b12 b13 b14 b15 b16 b17 b21 b22 b23 b24 b25 b26 b28 b29 b30 b31 b32 b33 b34 b35 b36 b46 b47 b48 b49 b50 b51 b52 b53 b54 b55 b56 b57 b58 b59 b60 b61 b62 b63 i0 (nI n0) (nI (NK + 1)) i4 NV i18 i19 i20 i27 i37 i38 i39 i40 i41 i42 i43 i44 i45 (nI (NK + 1))) vX12_184 [0] [1] rfl rfl rfl rfl rfl rfl hl.1 rfl (Nat.le_of_ble_eq_true rfl) ⟨Nat.le_of_ble_eq_true rfl, Nat.le_of_ble_eq_true rfl⟩ ⟨Nat.le_of_ble_eq_true rfl, Nat.le_of_ble_eq_true rfl⟩ dX12_number_139 (fun r13 u9 H locs hq hW => ?_)
              obtain ⟨rfl, rfl⟩ := hq
              have hW : WD g A s _ _ [(b1, .inl (g.2.1 0, 400, .inl f0)), (h0, .inr (12, [.int i0, .ref b1, .int (nI n0), .int (nI (NK + 1)), .int (fl i4 (nI (NK + 1))), .int NV, .ref b6, .ref b7, .ref b8, .ref b9, .ref b10, .ref b11, .ref b12, .ref b13, .ref b14, .ref b15, .ref b16, .ref b17, .int i18, .int i19, .int i20, .ref b21, .ref b22, .ref b23, .ref b24, .ref b25, .ref b26, .int i27, .ref b28, .ref b29, .ref b30, .ref b31, .ref b32, .ref b33, .ref b34, .ref b35, .ref b36, .int i37, .int i38, .int i39, .int i40, .int i41, .int i42, .int i43, .int i44, .int i45, .ref b46, .ref b47, .ref b48, .ref b49, .ref b50, .ref b51, .ref b52, .ref b53, .ref b54, .ref b55, .ref b56, .ref b57, .ref b58, .ref b59, .ref b60, .ref b61, .ref b62, .ref b63]))] := hW
              refine lv_if_eq (tgt := 149) (pc := 142) hx hb dX12_number_142 rfl (fun c14 => ?_) (fun c14 => absurd rfl c14)
              refine lv_iconst (v := 0) (pc := 149) hx hb dX12_number_149 (by decide) ?_
              exact e_z X hQ hr hW (u := [(h0, .inr (12, [.int i0, .ref b1, .int (nI n0), .int (nI (NK + 1)), .int (fl i4 (nI (NK + 1))), .int NV, .ref b6, .ref b7, .ref b8, .ref b9, .ref b10, .ref b11, .ref b12, .ref b13, .ref b14, .ref b15, .ref b16, .ref b17, .int i18, .int i19, .int i20, .ref b21, .ref b22, .ref b23, .ref b24, .ref b25, .ref b26, .int i27, .ref b28, .ref b29, .ref b30, .ref b31, .ref b32, .ref b33, .ref b34, .ref b35, .ref b36, .int i37, .int i38, .int i39, .int i40, .int i41, .int i42, .int i43, .int i44, .int i45, .ref b46, .ref b47, .ref b48, .ref b49, .ref b50, .ref b51, .ref b52, .ref b53, .ref b54, .ref b55, .ref b56, .ref b57, .ref b58, .ref b59, .ref b60, .ref b61, .ref b62, .ref b63])), (b1, .inl (g.2.1 0, 400, .inl f0))]) rfl [1, 0] rfl rfl (⟨e1.symm, by rw [e2, e3, e4]; (try rw [hNK]); (try rw [hNV])⟩) ⟨Nat.le_of_ble_eq_true rfl, Nat.le_of_ble_eq_true rfl⟩ dX12_number_150
          · obtain ⟨e1, e2, e3, e4⟩ := rn_bad (n := n0) (f := ub f0) (k := k0) (lo := lo) (hi := hi) (un := un) (v := i5) (i := i4) hno (by rw [hNV]; exact Or.inr (Or.inr c10))
            refine lv_aload_n (pc := 116) hx hb dX12_number_116 rfl (lv_at hl 0 rfl) ?_
            refine lv_aload_n (pc := 117) hx hb dX12_number_117 rfl (lv_at hl 0 rfl) ?_
            refine r_get X hW 0 ciX12 3 rfl (by decide) m_1234 rfl rfl dX12_number_118 ?_
            refine lv_iconst (v := 1) (pc := 121) hx hb dX12_number_121 (by decide) ?_
            refine lv_isub (pc := 122) hx hb dX12_number_122 ?_
            refine lv_topi (fun v15 ev15 => ?_)
            obtain rfl : v15 = nI NK := ev15.trans (nI_m1 _)
            refine c_Vi (pc := 123) (As := [.int (nI NK)]) (rest := []) (wr := [(b1, .inl (g.2.1 0, 400, .inl f0))]) X hW 0 ciX12 rfl (C_X12_failsG l g h0 b1 b6 b7 b8 b9 b10 b11 b12 b13 b14 b15 b16 b17 b21 b22 b23 b24 b25 b26 b28 b29 b30 b31 b32 b33 b34 b35 b36 b46 b47 b48 b49 b50 b51 b52 b53 b54 b55 b56 b57 b58 b59 b60 b61 b62 b63 i0 (nI n0) (nI (NK + 1)) i4 NV i18 i19 i20 i27 i37 i38 i39 i40 i41 i42 i43 i44 i45 (nI NK)) vX12_184 [0] [1] rfl rfl rfl rfl rfl rfl hl.1 rfl (Nat.le_of_ble_eq_true rfl) ⟨Nat.le_of_ble_eq_true rfl, Nat.le_of_ble_eq_true rfl⟩ ⟨Nat.le_of_ble_eq_true rfl, Nat.le_of_ble_eq_true rfl⟩ dX12_number_123 (fun r16 u9 H locs hq hW => ?_)
            obtain ⟨rfl, rfl⟩ := hq
            have hW : WD g A s _ _ [(b1, .inl (g.2.1 0, 400, .inl f0)), (h0, .inr (12, [.int i0, .ref b1, .int (nI n0), .int (nI (NK + 1)), .int (fl i4 (nI NK)), .int NV, .ref b6, .ref b7, .ref b8, .ref b9, .ref b10, .ref b11, .ref b12, .ref b13, .ref b14, .ref b15, .ref b16, .ref b17, .int i18, .int i19, .int i20, .ref b21, .ref b22, .ref b23, .ref b24, .ref b25, .ref b26, .int i27, .ref b28, .ref b29, .ref b30, .ref b31, .ref b32, .ref b33, .ref b34, .ref b35, .ref b36, .int i37, .int i38, .int i39, .int i40, .int i41, .int i42, .int i43, .int i44, .int i45, .ref b46, .ref b47, .ref b48, .ref b49, .ref b50, .ref b51, .ref b52, .ref b53, .ref b54, .ref b55, .ref b56, .ref b57, .ref b58, .ref b59, .ref b60, .ref b61, .ref b62, .ref b63]))] := hW
            exact e_z X hQ hr hW (u := [(h0, .inr (12, [.int i0, .ref b1, .int (nI n0), .int (nI (NK + 1)), .int (fl i4 (nI NK)), .int NV, .ref b6, .ref b7, .ref b8, .ref b9, .ref b10, .ref b11, .ref b12, .ref b13, .ref b14, .ref b15, .ref b16, .ref b17, .int i18, .int i19, .int i20, .ref b21, .ref b22, .ref b23, .ref b24, .ref b25, .ref b26, .int i27, .ref b28, .ref b29, .ref b30, .ref b31, .ref b32, .ref b33, .ref b34, .ref b35, .ref b36, .int i37, .int i38, .int i39, .int i40, .int i41, .int i42, .int i43, .int i44, .int i45, .ref b46, .ref b47, .ref b48, .ref b49, .ref b50, .ref b51, .ref b52, .ref b53, .ref b54, .ref b55, .ref b56, .ref b57, .ref b58, .ref b59, .ref b60, .ref b61, .ref b62, .ref b63])), (b1, .inl (g.2.1 0, 400, .inl f0))]) rfl [1, 0] rfl rfl (⟨e1.symm, by rw [e2, e3, e4]; (try rw [hNK]); (try rw [hNV])⟩) ⟨Nat.le_of_ble_eq_true rfl, Nat.le_of_ble_eq_true rfl⟩ dX12_number_126
      refine lv_aload_n (pc := 39) hx hb dX12_number_39 rfl (lv_at hl 0 rfl) ?_
      refine lv_aload_n (pc := 40) hx hb dX12_number_40 rfl (lv_at hl 0 rfl) ?_
      refine c_Vi (pc := 41) (As := []) (rest := [.ref h0]) (wr := []) X hW 0 ciX12 rfl (C_X12_hereG l g h0 b1 b6 b7 b8 b9 b10 b11 b12 b13 b14 b15 b16 b17 b21 b22 b23 b24 b25 b26 b28 b29 b30 b31 b32 b33 b34 b35 b36 b46 b47 b48 b49 b50 b51 b52 b53 b54 b55 b56 b57 b58 b59 b60 b61 b62 b63 i0 i4 i5 i18 i19 i20 i27 i37 i38 i39 i40 i41 i42 i43 i44 i45 f0 n0 hn0 (skn n0 (ub f0) k0) (by omega)) vX12_177 [0, 1] [] rfl rfl rfl rfl rfl rfl hl.1 rfl (Nat.le_of_ble_eq_true rfl) ⟨Nat.le_of_ble_eq_true rfl, Nat.le_of_ble_eq_true rfl⟩ ⟨Nat.le_of_ble_eq_true rfl, Nat.le_of_ble_eq_true rfl⟩ dX12_number_41 (fun r17 u9 H locs hq hW => ?_)
      obtain ⟨rfl, rfl⟩ := hq
      have hW : WD g A s _ _ [(h0, .inr (12, [.int i0, .ref b1, .int (nI n0), .int (nI (skn n0 (ub f0) k0)), .int i4, .int i5, .ref b6, .ref b7, .ref b8, .ref b9, .ref b10, .ref b11, .ref b12, .ref b13, .ref b14, .ref b15, .ref b16, .ref b17, .int i18, .int i19, .int i20, .ref b21, .ref b22, .ref b23, .ref b24, .ref b25, .ref b26, .int i27, .ref b28, .ref b29, .ref b30, .ref b31, .ref b32, .ref b33, .ref b34, .ref b35, .ref b36, .int i37, .int i38, .int i39, .int i40, .int i41, .int i42, .int i43, .int i44, .int i45, .ref b46, .ref b47, .ref b48, .ref b49, .ref b50, .ref b51, .ref b52, .ref b53, .ref b54, .ref b55, .ref b56, .ref b57, .ref b58, .ref b59, .ref b60, .ref b61, .ref b62, .ref b63])), (b1, .inl (g.2.1 0, 400, .inl f0))] := hW
      refine lv_bipush (v := 48) (pc := 44) hx hb dX12_number_44 (by decide) ?_
      refine lv_isub (pc := 46) hx hb dX12_number_46 ?_
      refine r_put (ws' := [(h0, .inr (12, [.int i0, .ref b1, .int (nI n0), .int (nI (skn n0 (ub f0) k0)), .int i4, .int ((atv n0 (ub f0) (nI (skn n0 (ub f0) k0))) - 48), .ref b6, .ref b7, .ref b8, .ref b9, .ref b10, .ref b11, .ref b12, .ref b13, .ref b14, .ref b15, .ref b16, .ref b17, .int i18, .int i19, .int i20, .ref b21, .ref b22, .ref b23, .ref b24, .ref b25, .ref b26, .int i27, .ref b28, .ref b29, .ref b30, .ref b31, .ref b32, .ref b33, .ref b34, .ref b35, .ref b36, .int i37, .int i38, .int i39, .int i40, .int i41, .int i42, .int i43, .int i44, .int i45, .ref b46, .ref b47, .ref b48, .ref b49, .ref b50, .ref b51, .ref b52, .ref b53, .ref b54, .ref b55, .ref b56, .ref b57, .ref b58, .ref b59, .ref b60, .ref b61, .ref b62, .ref b63])), (b1, .inl (g.2.1 0, 400, .inl f0))]) X hW 0 ciX12 5 rfl (by decide) m_1236 rfl rfl rfl rfl (Nat.le_of_ble_eq_true rfl) rfl dX12_number_47 (fun H locs hW => ?_)
      refine lv_aload_n (pc := 50) hx hb dX12_number_50 rfl (lv_at hl 0 rfl) ?_
      refine lv_dup (pc := 51) hx hb dX12_number_51 rfl ?_
      refine r_get X hW 0 ciX12 3 rfl (by decide) m_1234 rfl rfl dX12_number_52 ?_
      refine lv_iconst (v := 1) (pc := 55) hx hb dX12_number_55 (by decide) ?_
      refine lv_iadd (pc := 56) hx hb dX12_number_56 ?_
      refine lv_topi (fun v18 ev18 => ?_)
      obtain rfl : v18 = nI (skn n0 (ub f0) k0 + 1) := ev18.trans (nI_1 _)
      refine r_put (ws' := [(h0, .inr (12, [.int i0, .ref b1, .int (nI n0), .int (nI (skn n0 (ub f0) k0 + 1)), .int i4, .int ((atv n0 (ub f0) (nI (skn n0 (ub f0) k0))) - 48), .ref b6, .ref b7, .ref b8, .ref b9, .ref b10, .ref b11, .ref b12, .ref b13, .ref b14, .ref b15, .ref b16, .ref b17, .int i18, .int i19, .int i20, .ref b21, .ref b22, .ref b23, .ref b24, .ref b25, .ref b26, .int i27, .ref b28, .ref b29, .ref b30, .ref b31, .ref b32, .ref b33, .ref b34, .ref b35, .ref b36, .int i37, .int i38, .int i39, .int i40, .int i41, .int i42, .int i43, .int i44, .int i45, .ref b46, .ref b47, .ref b48, .ref b49, .ref b50, .ref b51, .ref b52, .ref b53, .ref b54, .ref b55, .ref b56, .ref b57, .ref b58, .ref b59, .ref b60, .ref b61, .ref b62, .ref b63])), (b1, .inl (g.2.1 0, 400, .inl f0))]) X hW 0 ciX12 3 rfl (by decide) m_1234 rfl rfl rfl rfl (Nat.le_of_ble_eq_true rfl) rfl dX12_number_57 (fun H locs hW => ?_)
      refine lv_aload_n (pc := 60) hx hb dX12_number_60 rfl (lv_at hl 0 rfl) ?_
      refine c_Vi (pc := 61) (As := []) (rest := []) (wr := []) X hW 0 ciX12 rfl (C_X12_isDigitG l g h0 b1 b6 b7 b8 b9 b10 b11 b12 b13 b14 b15 b16 b17 b21 b22 b23 b24 b25 b26 b28 b29 b30 b31 b32 b33 b34 b35 b36 b46 b47 b48 b49 b50 b51 b52 b53 b54 b55 b56 b57 b58 b59 b60 b61 b62 b63 i0 i4 ((atv n0 (ub f0) (nI (skn n0 (ub f0) k0))) - 48) i18 i19 i20 i27 i37 i38 i39 i40 i41 i42 i43 i44 i45 f0 n0 hn0 (skn n0 (ub f0) k0 + 1) (by omega)) vX12_191 [0, 1] [] rfl rfl rfl rfl rfl rfl hl.1 rfl (Nat.le_of_ble_eq_true rfl) ⟨Nat.le_of_ble_eq_true rfl, Nat.le_of_ble_eq_true rfl⟩ ⟨Nat.le_of_ble_eq_true rfl, Nat.le_of_ble_eq_true rfl⟩ dX12_number_61 (fun r19 u9 H locs hq hW => ?_)
      obtain ⟨rfl, rfl⟩ := hq
      have hW : WD g A s _ _ [(h0, .inr (12, [.int i0, .ref b1, .int (nI n0), .int (nI (skn n0 (ub f0) k0 + 1)), .int i4, .int ((atv n0 (ub f0) (nI (skn n0 (ub f0) k0))) - 48), .ref b6, .ref b7, .ref b8, .ref b9, .ref b10, .ref b11, .ref b12, .ref b13, .ref b14, .ref b15, .ref b16, .ref b17, .int i18, .int i19, .int i20, .ref b21, .ref b22, .ref b23, .ref b24, .ref b25, .ref b26, .int i27, .ref b28, .ref b29, .ref b30, .ref b31, .ref b32, .ref b33, .ref b34, .ref b35, .ref b36, .int i37, .int i38, .int i39, .int i40, .int i41, .int i42, .int i43, .int i44, .int i45, .ref b46, .ref b47, .ref b48, .ref b49, .ref b50, .ref b51, .ref b52, .ref b53, .ref b54, .ref b55, .ref b56, .ref b57, .ref b58, .ref b59, .ref b60, .ref b61, .ref b62, .ref b63])), (b1, .inl (g.2.1 0, 400, .inl f0))] := hW
      refine lv_if_eq (tgt := 96) (pc := 64) hx hb dX12_number_64 rfl (fun c20 => ?_) (fun c20 => ?_)
      · have hd2 := c20
        exact tail ((atv n0 (ub f0) (nI (skn n0 (ub f0) k0))) - 48) (skn n0 (ub f0) k0) (if_pos hd2) (if_pos hd2) _ _ hW
      · have hd2 := c20
        have hk4 := dg_lt hn0 (by omega) hd2
        refine lv_aload_n (pc := 67) hx hb dX12_number_67 rfl (lv_at hl 0 rfl) ?_
        refine lv_bipush (v := 10) (pc := 68) hx hb dX12_number_68 (by decide) ?_
        refine lv_aload_n (pc := 70) hx hb dX12_number_70 rfl (lv_at hl 0 rfl) ?_
        refine r_get X hW 0 ciX12 5 rfl (by decide) m_1236 rfl rfl dX12_number_71 ?_
        refine lv_imul (pc := 74) hx hb dX12_number_74 ?_
        refine lv_topi (fun v21 ev21 => ?_)
        obtain rfl : v21 = (atv n0 (ub f0) (nI (skn n0 (ub f0) k0)) - 48) * 10 := ev21.trans (Int32.mul_comm _ _)
        refine lv_aload_n (pc := 75) hx hb dX12_number_75 rfl (lv_at hl 0 rfl) ?_
        refine c_Vi (pc := 76) (As := []) (rest := [.int ((atv n0 (ub f0) (nI (skn n0 (ub f0) k0)) - 48) * 10), .ref h0]) (wr := []) X hW 0 ciX12 rfl (C_X12_hereG l g h0 b1 b6 b7 b8 b9 b10 b11 b12 b13 b14 b15 b16 b17 b21 b22 b23 b24 b25 b26 b28 b29 b30 b31 b32 b33 b34 b35 b36 b46 b47 b48 b49 b50 b51 b52 b53 b54 b55 b56 b57 b58 b59 b60 b61 b62 b63 i0 i4 ((atv n0 (ub f0) (nI (skn n0 (ub f0) k0))) - 48) i18 i19 i20 i27 i37 i38 i39 i40 i41 i42 i43 i44 i45 f0 n0 hn0 (skn n0 (ub f0) k0 + 1) (by omega)) vX12_177 [0, 1] [] rfl rfl rfl rfl rfl rfl hl.1 rfl (Nat.le_of_ble_eq_true rfl) ⟨Nat.le_of_ble_eq_true rfl, Nat.le_of_ble_eq_true rfl⟩ ⟨Nat.le_of_ble_eq_true rfl, Nat.le_of_ble_eq_true rfl⟩ dX12_number_76 (fun r22 u9 H locs hq hW => ?_)
        obtain ⟨rfl, rfl⟩ := hq
        have hW : WD g A s _ _ [(h0, .inr (12, [.int i0, .ref b1, .int (nI n0), .int (nI (skn n0 (ub f0) k0 + 1)), .int i4, .int ((atv n0 (ub f0) (nI (skn n0 (ub f0) k0))) - 48), .ref b6, .ref b7, .ref b8, .ref b9, .ref b10, .ref b11, .ref b12, .ref b13, .ref b14, .ref b15, .ref b16, .ref b17, .int i18, .int i19, .int i20, .ref b21, .ref b22, .ref b23, .ref b24, .ref b25, .ref b26, .int i27, .ref b28, .ref b29, .ref b30, .ref b31, .ref b32, .ref b33, .ref b34, .ref b35, .ref b36, .int i37, .int i38, .int i39, .int i40, .int i41, .int i42, .int i43, .int i44, .int i45, .ref b46, .ref b47, .ref b48, .ref b49, .ref b50, .ref b51, .ref b52, .ref b53, .ref b54, .ref b55, .ref b56, .ref b57, .ref b58, .ref b59, .ref b60, .ref b61, .ref b62, .ref b63])), (b1, .inl (g.2.1 0, 400, .inl f0))] := hW
        refine lv_iadd (pc := 79) hx hb dX12_number_79 ?_
        refine lv_bipush (v := 48) (pc := 80) hx hb dX12_number_80 (by decide) ?_
        refine lv_isub (pc := 82) hx hb dX12_number_82 ?_
        refine r_put (ws' := [(h0, .inr (12, [.int i0, .ref b1, .int (nI n0), .int (nI (skn n0 (ub f0) k0 + 1)), .int i4, .int ((((atv n0 (ub f0) (nI (skn n0 (ub f0) k0)) - 48) * 10) + (atv n0 (ub f0) (nI (skn n0 (ub f0) k0 + 1)))) - 48), .ref b6, .ref b7, .ref b8, .ref b9, .ref b10, .ref b11, .ref b12, .ref b13, .ref b14, .ref b15, .ref b16, .ref b17, .int i18, .int i19, .int i20, .ref b21, .ref b22, .ref b23, .ref b24, .ref b25, .ref b26, .int i27, .ref b28, .ref b29, .ref b30, .ref b31, .ref b32, .ref b33, .ref b34, .ref b35, .ref b36, .int i37, .int i38, .int i39, .int i40, .int i41, .int i42, .int i43, .int i44, .int i45, .ref b46, .ref b47, .ref b48, .ref b49, .ref b50, .ref b51, .ref b52, .ref b53, .ref b54, .ref b55, .ref b56, .ref b57, .ref b58, .ref b59, .ref b60, .ref b61, .ref b62, .ref b63])), (b1, .inl (g.2.1 0, 400, .inl f0))]) X hW 0 ciX12 5 rfl (by decide) m_1236 rfl rfl rfl rfl (Nat.le_of_ble_eq_true rfl) rfl dX12_number_83 (fun H locs hW => ?_)
        refine lv_aload_n (pc := 86) hx hb dX12_number_86 rfl (lv_at hl 0 rfl) ?_
        refine lv_dup (pc := 87) hx hb dX12_number_87 rfl ?_
        refine r_get X hW 0 ciX12 3 rfl (by decide) m_1234 rfl rfl dX12_number_88 ?_
        refine lv_iconst (v := 1) (pc := 91) hx hb dX12_number_91 (by decide) ?_
        refine lv_iadd (pc := 92) hx hb dX12_number_92 ?_
        refine lv_topi (fun v23 ev23 => ?_)
        obtain rfl : v23 = nI (skn n0 (ub f0) k0 + 1 + 1) := ev23.trans (nI_1 _)
        refine r_put (ws' := [(h0, .inr (12, [.int i0, .ref b1, .int (nI n0), .int (nI (skn n0 (ub f0) k0 + 1 + 1)), .int i4, .int ((((atv n0 (ub f0) (nI (skn n0 (ub f0) k0)) - 48) * 10) + (atv n0 (ub f0) (nI (skn n0 (ub f0) k0 + 1)))) - 48), .ref b6, .ref b7, .ref b8, .ref b9, .ref b10, .ref b11, .ref b12, .ref b13, .ref b14, .ref b15, .ref b16, .ref b17, .int i18, .int i19, .int i20, .ref b21, .ref b22, .ref b23, .ref b24, .ref b25, .ref b26, .int i27, .ref b28, .ref b29, .ref b30, .ref b31, .ref b32, .ref b33, .ref b34, .ref b35, .ref b36, .int i37, .int i38, .int i39, .int i40, .int i41, .int i42, .int i43, .int i44, .int i45, .ref b46, .ref b47, .ref b48, .ref b49, .ref b50, .ref b51, .ref b52, .ref b53, .ref b54, .ref b55, .ref b56, .ref b57, .ref b58, .ref b59, .ref b60, .ref b61, .ref b62, .ref b63])), (b1, .inl (g.2.1 0, 400, .inl f0))]) X hW 0 ciX12 3 rfl (by decide) m_1234 rfl rfl rfl rfl (Nat.le_of_ble_eq_true rfl) rfl dX12_number_93 (fun H locs hW => ?_)
        exact tail ((((atv n0 (ub f0) (nI (skn n0 (ub f0) k0)) - 48) * 10) + (atv n0 (ub f0) (nI (skn n0 (ub f0) k0 + 1)))) - 48) (skn n0 (ub f0) k0 + 1) (if_neg hd2) (if_neg hd2) _ _ hW
    · obtain ⟨e1, e2, e3, e4⟩ := rn_no (n := n0) (f := ub f0) (k := k0) (lo := lo) (hi := hi) (un := un) (v := i5) (i := i4) (Or.inr c5)
      refine lv_aload_n (pc := 30) hx hb dX12_number_30 rfl (lv_at hl 0 rfl) ?_
      refine lv_aload_n (pc := 31) hx hb dX12_number_31 rfl (lv_at hl 0 rfl) ?_
      refine r_get X hW 0 ciX12 3 rfl (by decide) m_1234 rfl rfl dX12_number_32 ?_
      refine c_Vi (pc := 35) (As := [.int (nI (skn n0 (ub f0) k0))]) (rest := []) (wr := [(b1, .inl (g.2.1 0, 400, .inl f0))]) X hW 0 ciX12 rfl (C_X12_failsG l g h0 b1 b6 b7 b8 b9 b10 b11 b12 b13 b14 b15 b16 b17 b21 b22 b23 b24 b25 b26 b28 b29 b30 b31 b32 b33 b34 b35 b36 b46 b47 b48 b49 b50 b51 b52 b53 b54 b55 b56 b57 b58 b59 b60 b61 b62 b63 i0 (nI n0) (nI (skn n0 (ub f0) k0)) i4 i5 i18 i19 i20 i27 i37 i38 i39 i40 i41 i42 i43 i44 i45 (nI (skn n0 (ub f0) k0))) vX12_184 [0] [1] rfl rfl rfl rfl rfl rfl hl.1 rfl (Nat.le_of_ble_eq_true rfl) ⟨Nat.le_of_ble_eq_true rfl, Nat.le_of_ble_eq_true rfl⟩ ⟨Nat.le_of_ble_eq_true rfl, Nat.le_of_ble_eq_true rfl⟩ dX12_number_35 (fun r24 u9 H locs hq hW => ?_)
      obtain ⟨rfl, rfl⟩ := hq
      have hW : WD g A s _ _ [(b1, .inl (g.2.1 0, 400, .inl f0)), (h0, .inr (12, [.int i0, .ref b1, .int (nI n0), .int (nI (skn n0 (ub f0) k0)), .int (fl i4 (nI (skn n0 (ub f0) k0))), .int i5, .ref b6, .ref b7, .ref b8, .ref b9, .ref b10, .ref b11, .ref b12, .ref b13, .ref b14, .ref b15, .ref b16, .ref b17, .int i18, .int i19, .int i20, .ref b21, .ref b22, .ref b23, .ref b24, .ref b25, .ref b26, .int i27, .ref b28, .ref b29, .ref b30, .ref b31, .ref b32, .ref b33, .ref b34, .ref b35, .ref b36, .int i37, .int i38, .int i39, .int i40, .int i41, .int i42, .int i43, .int i44, .int i45, .ref b46, .ref b47, .ref b48, .ref b49, .ref b50, .ref b51, .ref b52, .ref b53, .ref b54, .ref b55, .ref b56, .ref b57, .ref b58, .ref b59, .ref b60, .ref b61, .ref b62, .ref b63]))] := hW
      exact e_z X hQ hr hW (u := [(h0, .inr (12, [.int i0, .ref b1, .int (nI n0), .int (nI (skn n0 (ub f0) k0)), .int (fl i4 (nI (skn n0 (ub f0) k0))), .int i5, .ref b6, .ref b7, .ref b8, .ref b9, .ref b10, .ref b11, .ref b12, .ref b13, .ref b14, .ref b15, .ref b16, .ref b17, .int i18, .int i19, .int i20, .ref b21, .ref b22, .ref b23, .ref b24, .ref b25, .ref b26, .int i27, .ref b28, .ref b29, .ref b30, .ref b31, .ref b32, .ref b33, .ref b34, .ref b35, .ref b36, .int i37, .int i38, .int i39, .int i40, .int i41, .int i42, .int i43, .int i44, .int i45, .ref b46, .ref b47, .ref b48, .ref b49, .ref b50, .ref b51, .ref b52, .ref b53, .ref b54, .ref b55, .ref b56, .ref b57, .ref b58, .ref b59, .ref b60, .ref b61, .ref b62, .ref b63])), (b1, .inl (g.2.1 0, 400, .inl f0))]) rfl [1, 0] rfl rfl (⟨e1.symm, by rw [e2, e3, e4]⟩) ⟨Nat.le_of_ble_eq_true rfl, Nat.le_of_ble_eq_true rfl⟩ dX12_number_38
  · have hs0 : skn n0 (ub f0) k0 = k0 := skn_n2 hn0 hk0 c2
    obtain ⟨e1, e2, e3, e4⟩ := rn_no (n := n0) (f := ub f0) (k := k0) (lo := lo) (hi := hi) (un := un) (v := i5) (i := i4) (Or.inl hs0)
    refine lv_aload_n (pc := 9) hx hb dX12_number_9 rfl (lv_at hl 0 rfl) ?_
    refine lv_aload_n (pc := 10) hx hb dX12_number_10 rfl (lv_at hl 0 rfl) ?_
    refine r_get X hW 0 ciX12 3 rfl (by decide) m_1234 rfl rfl dX12_number_11 ?_
    refine c_Vi (pc := 14) (As := [.int (nI k0)]) (rest := []) (wr := [(b1, .inl (g.2.1 0, 400, .inl f0))]) X hW 0 ciX12 rfl (C_X12_failsG l g h0 b1 b6 b7 b8 b9 b10 b11 b12 b13 b14 b15 b16 b17 b21 b22 b23 b24 b25 b26 b28 b29 b30 b31 b32 b33 b34 b35 b36 b46 b47 b48 b49 b50 b51 b52 b53 b54 b55 b56 b57 b58 b59 b60 b61 b62 b63 i0 (nI n0) (nI k0) i4 i5 i18 i19 i20 i27 i37 i38 i39 i40 i41 i42 i43 i44 i45 (nI k0)) vX12_184 [0] [1] rfl rfl rfl rfl rfl rfl hl.1 rfl (Nat.le_of_ble_eq_true rfl) ⟨Nat.le_of_ble_eq_true rfl, Nat.le_of_ble_eq_true rfl⟩ ⟨Nat.le_of_ble_eq_true rfl, Nat.le_of_ble_eq_true rfl⟩ dX12_number_14 (fun r25 u9 H locs hq hW => ?_)
    obtain ⟨rfl, rfl⟩ := hq
    have hW : WD g A s _ _ [(b1, .inl (g.2.1 0, 400, .inl f0)), (h0, .inr (12, [.int i0, .ref b1, .int (nI n0), .int (nI k0), .int (fl i4 (nI k0)), .int i5, .ref b6, .ref b7, .ref b8, .ref b9, .ref b10, .ref b11, .ref b12, .ref b13, .ref b14, .ref b15, .ref b16, .ref b17, .int i18, .int i19, .int i20, .ref b21, .ref b22, .ref b23, .ref b24, .ref b25, .ref b26, .int i27, .ref b28, .ref b29, .ref b30, .ref b31, .ref b32, .ref b33, .ref b34, .ref b35, .ref b36, .int i37, .int i38, .int i39, .int i40, .int i41, .int i42, .int i43, .int i44, .int i45, .ref b46, .ref b47, .ref b48, .ref b49, .ref b50, .ref b51, .ref b52, .ref b53, .ref b54, .ref b55, .ref b56, .ref b57, .ref b58, .ref b59, .ref b60, .ref b61, .ref b62, .ref b63]))] := hW
    exact e_z X hQ hr hW (u := [(h0, .inr (12, [.int i0, .ref b1, .int (nI n0), .int (nI k0), .int (fl i4 (nI k0)), .int i5, .ref b6, .ref b7, .ref b8, .ref b9, .ref b10, .ref b11, .ref b12, .ref b13, .ref b14, .ref b15, .ref b16, .ref b17, .int i18, .int i19, .int i20, .ref b21, .ref b22, .ref b23, .ref b24, .ref b25, .ref b26, .int i27, .ref b28, .ref b29, .ref b30, .ref b31, .ref b32, .ref b33, .ref b34, .ref b35, .ref b36, .int i37, .int i38, .int i39, .int i40, .int i41, .int i42, .int i43, .int i44, .int i45, .ref b46, .ref b47, .ref b48, .ref b49, .ref b50, .ref b51, .ref b52, .ref b53, .ref b54, .ref b55, .ref b56, .ref b57, .ref b58, .ref b59, .ref b60, .ref b61, .ref b62, .ref b63])), (b1, .inl (g.2.1 0, 400, .inl f0))]) rfl [1, 0] rfl rfl (⟨e1.symm, by rw [e2, e3, e4, hs0]⟩) ⟨Nat.le_of_ble_eq_true rfl, Nat.le_of_ble_eq_true rfl⟩ dX12_number_17

theorem m_445 : (Cond.code yX8_number prog_10_method_13_code 6 (Option.some FieldType.int)) ∈ BW := bw (tb2 205 rfl) (by decide +kernel)
theorem dX8_number_0 : decode cX8_number 0 = .ok (.aload_n 0, 1) := DX8_number _ _ _ rfl
theorem dX8_number_1 : decode cX8_number 1 = .ok (.getfield 27, 3) := DX8_number _ _ _ rfl
theorem dX8_number_4 : decode cX8_number 4 = .ok (.istore 4, 2) := DX8_number _ _ _ rfl
theorem dX8_number_6 : decode cX8_number 6 = .ok (.aload_n 0, 1) := DX8_number _ _ _ rfl
theorem dX8_number_7 : decode cX8_number 7 = .ok (.invokevirtual 35, 3) := DX8_number _ _ _ rfl
theorem dX8_number_10 : decode cX8_number 10 = .ok (.aload_n 0, 1) := DX8_number _ _ _ rfl
theorem dX8_number_11 : decode cX8_number 11 = .ok (.getfield 27, 3) := DX8_number _ _ _ rfl
theorem dX8_number_14 : decode cX8_number 14 = .ok (.iload 4, 2) := DX8_number _ _ _ rfl
theorem dX8_number_16 : decode cX8_number 16 = .ok (.if_icmp .eq 14, 3) := DX8_number _ _ _ rfl
theorem dX8_number_30 : decode cX8_number 30 = .ok (.iconst (-1), 1) := DX8_number _ _ _ rfl
theorem dX8_number_31 : decode cX8_number 31 = .ok (.ireturn, 1) := DX8_number _ _ _ rfl
theorem dX8_number_19 : decode cX8_number 19 = .ok (.aload_n 0, 1) := DX8_number _ _ _ rfl
theorem dX8_number_20 : decode cX8_number 20 = .ok (.aload_n 0, 1) := DX8_number _ _ _ rfl
theorem dX8_number_21 : decode cX8_number 21 = .ok (.getfield 27, 3) := DX8_number _ _ _ rfl
theorem m_446 : (Cond.methodLink "NoonValley$Tape" 83 yX8_isDigit) ∈ BW := bw (tb2 206 (by decide +kernel)) (by decide +kernel)
theorem m_448 : (Cond.instanceMethod yX8_isDigit) ∈ BW := bw (tb2 208 (by decide +kernel)) (by decide +kernel)
theorem s_1_4 : (Cond.selects RX8 yX8_isDigit yX8_isDigit) ∈ BW := bw (sl1 (y := yX8_isDigit) (n := 3) 4 (by decide +kernel)) (by decide +kernel)
theorem vX8_83 : LV RX8 83 RX8 yX8_isDigit cX8_isDigit 3 (some .boolean) 1 := ⟨m_446, m_448, s_1_4, m_2, m_449, rfl, by decide, by decide, by decide +kernel⟩
theorem dX8_number_24 : decode cX8_number 24 = .ok (.invokevirtual 83, 3) := DX8_number _ _ _ rfl
theorem dX8_number_27 : decode cX8_number 27 = .ok (.ifCond .ne 5, 3) := DX8_number _ _ _ rfl
theorem dX8_number_32 : decode cX8_number 32 = .ok (.aload_n 0, 1) := DX8_number _ _ _ rfl
theorem dX8_number_33 : decode cX8_number 33 = .ok (.aload_n 0, 1) := DX8_number _ _ _ rfl
theorem dX8_number_34 : decode cX8_number 34 = .ok (.getfield 27, 3) := DX8_number _ _ _ rfl
theorem dX8_number_37 : decode cX8_number 37 = .ok (.invokevirtual 38, 3) := DX8_number _ _ _ rfl
theorem dX8_number_40 : decode cX8_number 40 = .ok (.bipush 48, 2) := DX8_number _ _ _ rfl
theorem dX8_number_42 : decode cX8_number 42 = .ok (.isub, 1) := DX8_number _ _ _ rfl
theorem dX8_number_43 : decode cX8_number 43 = .ok (.istore 5, 2) := DX8_number _ _ _ rfl
theorem dX8_number_45 : decode cX8_number 45 = .ok (.aload_n 0, 1) := DX8_number _ _ _ rfl
theorem dX8_number_46 : decode cX8_number 46 = .ok (.aload_n 0, 1) := DX8_number _ _ _ rfl
theorem dX8_number_47 : decode cX8_number 47 = .ok (.getfield 27, 3) := DX8_number _ _ _ rfl
theorem dX8_number_50 : decode cX8_number 50 = .ok (.iconst 1, 1) := DX8_number _ _ _ rfl
theorem dX8_number_51 : decode cX8_number 51 = .ok (.iadd, 1) := DX8_number _ _ _ rfl
theorem dX8_number_52 : decode cX8_number 52 = .ok (.invokevirtual 83, 3) := DX8_number _ _ _ rfl
theorem dX8_number_55 : decode cX8_number 55 = .ok (.ifCond .eq 32, 3) := DX8_number _ _ _ rfl
theorem dX8_number_87 : decode cX8_number 87 = .ok (.iload 5, 2) := DX8_number _ _ _ rfl
theorem dX8_number_89 : decode cX8_number 89 = .ok (.iload_n 1, 1) := DX8_number _ _ _ rfl
theorem dX8_number_90 : decode cX8_number 90 = .ok (.if_icmp .lt 15, 3) := DX8_number _ _ _ rfl
theorem dX8_number_105 : decode cX8_number 105 = .ok (.iconst (-1), 1) := DX8_number _ _ _ rfl
theorem dX8_number_106 : decode cX8_number 106 = .ok (.ireturn, 1) := DX8_number _ _ _ rfl
theorem dX8_number_93 : decode cX8_number 93 = .ok (.iload 5, 2) := DX8_number _ _ _ rfl
theorem dX8_number_95 : decode cX8_number 95 = .ok (.iload_n 2, 1) := DX8_number _ _ _ rfl
theorem dX8_number_96 : decode cX8_number 96 = .ok (.if_icmp .gt 9, 3) := DX8_number _ _ _ rfl
theorem dX8_number_99 : decode cX8_number 99 = .ok (.iload 5, 2) := DX8_number _ _ _ rfl
theorem dX8_number_101 : decode cX8_number 101 = .ok (.iload_n 3, 1) := DX8_number _ _ _ rfl
theorem dX8_number_102 : decode cX8_number 102 = .ok (.if_icmp .ne 5, 3) := DX8_number _ _ _ rfl
theorem dX8_number_107 : decode cX8_number 107 = .ok (.aload_n 0, 1) := DX8_number _ _ _ rfl
theorem dX8_number_108 : decode cX8_number 108 = .ok (.dup, 1) := DX8_number _ _ _ rfl
theorem dX8_number_109 : decode cX8_number 109 = .ok (.getfield 27, 3) := DX8_number _ _ _ rfl
theorem dX8_number_112 : decode cX8_number 112 = .ok (.iconst 1, 1) := DX8_number _ _ _ rfl
theorem dX8_number_113 : decode cX8_number 113 = .ok (.iadd, 1) := DX8_number _ _ _ rfl
theorem dX8_number_114 : decode cX8_number 114 = .ok (.putfield 27, 3) := DX8_number _ _ _ rfl
theorem dX8_number_117 : decode cX8_number 117 = .ok (.iload 5, 2) := DX8_number _ _ _ rfl
theorem dX8_number_119 : decode cX8_number 119 = .ok (.ireturn, 1) := DX8_number _ _ _ rfl
theorem dX8_number_58 : decode cX8_number 58 = .ok (.aload_n 0, 1) := DX8_number _ _ _ rfl
theorem dX8_number_59 : decode cX8_number 59 = .ok (.dup, 1) := DX8_number _ _ _ rfl
theorem dX8_number_60 : decode cX8_number 60 = .ok (.getfield 27, 3) := DX8_number _ _ _ rfl
theorem dX8_number_63 : decode cX8_number 63 = .ok (.iconst 1, 1) := DX8_number _ _ _ rfl
theorem dX8_number_64 : decode cX8_number 64 = .ok (.iadd, 1) := DX8_number _ _ _ rfl
theorem dX8_number_65 : decode cX8_number 65 = .ok (.putfield 27, 3) := DX8_number _ _ _ rfl
theorem dX8_number_68 : decode cX8_number 68 = .ok (.iload 5, 2) := DX8_number _ _ _ rfl
theorem dX8_number_70 : decode cX8_number 70 = .ok (.bipush 10, 2) := DX8_number _ _ _ rfl
theorem dX8_number_72 : decode cX8_number 72 = .ok (.imul, 1) := DX8_number _ _ _ rfl
theorem dX8_number_73 : decode cX8_number 73 = .ok (.aload_n 0, 1) := DX8_number _ _ _ rfl
theorem dX8_number_74 : decode cX8_number 74 = .ok (.aload_n 0, 1) := DX8_number _ _ _ rfl
theorem dX8_number_75 : decode cX8_number 75 = .ok (.getfield 27, 3) := DX8_number _ _ _ rfl
theorem dX8_number_78 : decode cX8_number 78 = .ok (.invokevirtual 38, 3) := DX8_number _ _ _ rfl
theorem dX8_number_81 : decode cX8_number 81 = .ok (.iadd, 1) := DX8_number _ _ _ rfl
theorem dX8_number_82 : decode cX8_number 82 = .ok (.bipush 48, 2) := DX8_number _ _ _ rfl
theorem dX8_number_84 : decode cX8_number 84 = .ok (.isub, 1) := DX8_number _ _ _ rfl
theorem dX8_number_85 : decode cX8_number 85 = .ok (.istore 5, 2) := DX8_number _ _ _ rfl
set_option maxHeartbeats 4000000 in
set_option maxRecDepth 100000 in
theorem C_X8_numberG (l : Launch) (g : GG) (h0 q : Nat) (f0 : Nat → Int32) (n0 : Nat) (hn0 : n0 ≤ 400) (k0 : Nat) (lo hi un : Int32) (hk0 : k0 ≤ n0) : MetI l g yX8_number cX8_number 6 (some .int) 2 0 0 [.ref h0, .int lo, .int hi, .int un] [(h0, .inr (8, [.ref q, .int (nI n0), .int (nI k0)])), (q, .inl (g.2.1 1, 400, .inl f0))] (fun r u => r = numr n0 f0 k0 lo hi un ∧ u = [(h0, .inr (8, [.ref q, .int (nI n0), .int (nI (nump n0 f0 k0 lo hi un))])), (q, .inl (g.2.1 1, 400, .inl f0))]) := by
  refine MetI.of (own := RX8) rfl (by decide) (Nat.le_of_ble_eq_true rfl) ?_
  intro p e s m below meth c A ls args Q hQ X hr hin hW hl
  have hx := X.1
  have hb := X.2.1
  have hl : lv_has ls 6 [(0, .ref h0), (1, .int lo), (2, .int hi), (3, .int un)] := hl
  have hs := skn_le (f := f0) hk0
  refine lv_aload_n (pc := 0) hx hb dX8_number_0 rfl (lv_at hl 0 rfl) ?_
  refine r_get X hW 0 ciX8 2 rfl (by decide) m_39 rfl rfl dX8_number_1 ?_
  refine lv_istore (lv' := [(4, .int (nI k0)), (0, .ref h0), (1, .int lo), (2, .int hi), (3, .int un)]) (pc := 4) hx hb dX8_number_4 hl (by decide) rfl (fun ls hl => ?_)
  refine lv_aload_n (pc := 6) hx hb dX8_number_6 rfl (lv_at hl 1 rfl) ?_
  refine c_Vv (pc := 7) (As := []) (rest := []) (wr := []) X hW 0 ciX8 rfl (C_X8_skipBlanksG l g h0 q f0 n0 hn0 k0 (by omega)) vX8_35 [0, 1] [] rfl rfl rfl rfl rfl rfl hl.1 rfl (Nat.le_of_ble_eq_true rfl) ⟨Nat.le_of_ble_eq_true rfl, Nat.le_of_ble_eq_true rfl⟩ ⟨Nat.le_of_ble_eq_true rfl, Nat.le_of_ble_eq_true rfl⟩ dX8_number_7 (fun u9 H locs hq hW => ?_)
  obtain rfl := hq
  have hW : WD g A s _ _ [(h0, .inr (8, [.ref q, .int (nI n0), .int (nI (skn n0 f0 k0))])), (q, .inl (g.2.1 1, 400, .inl f0))] := hW
  refine lv_aload_n (pc := 10) hx hb dX8_number_10 rfl (lv_at hl 1 rfl) ?_
  refine r_get X hW 0 ciX8 2 rfl (by decide) m_39 rfl rfl dX8_number_11 ?_
  refine lv_iload (pc := 14) hx hb dX8_number_14 (lv_at hl 0 rfl) ?_
  refine lv_icmp_eq (tgt := 30) (pc := 16) hx hb dX8_number_16 rfl (fun c1 => ?_) (fun c1 => ?_)
  · obtain ⟨e1, e2⟩ := num_no (n := n0) (f := f0) (k := k0) (lo := lo) (hi := hi) (un := un) (Or.inl ((nI_eq (by omega) (by omega)).mp c1))
    refine lv_iconst (v := (-1)) (pc := 30) hx hb dX8_number_30 (by decide) ?_
    exact e_i X hQ hr hW (u := [(h0, .inr (8, [.ref q, .int (nI n0), .int (nI (skn n0 f0 k0))])), (q, .inl (g.2.1 1, 400, .inl f0))]) [0, 1] rfl rfl (⟨e1.symm, by rw [e2]⟩) ⟨Nat.le_of_ble_eq_true rfl, Nat.le_of_ble_eq_true rfl⟩ dX8_number_31
  · have hne : ¬ skn n0 f0 k0 = k0 := fun q => c1 (congrArg nI q)
    refine lv_aload_n (pc := 19) hx hb dX8_number_19 rfl (lv_at hl 1 rfl) ?_
    refine lv_aload_n (pc := 20) hx hb dX8_number_20 rfl (lv_at hl 1 rfl) ?_
    refine r_get X hW 0 ciX8 2 rfl (by decide) m_39 rfl rfl dX8_number_21 ?_
    refine c_Vi (pc := 24) (As := [.int (nI (skn n0 f0 k0))]) (rest := []) (wr := []) X hW 0 ciX8 rfl (C_X8_isDigitG l g h0 q f0 n0 hn0 (nI (skn n0 f0 k0)) (nI (skn n0 f0 k0))) vX8_83 [0, 1] [] rfl rfl rfl rfl rfl rfl hl.1 rfl (Nat.le_of_ble_eq_true rfl) ⟨Nat.le_of_ble_eq_true rfl, Nat.le_of_ble_eq_true rfl⟩ ⟨Nat.le_of_ble_eq_true rfl, Nat.le_of_ble_eq_true rfl⟩ dX8_number_24 (fun r2 u9 H locs hq hW => ?_)
    obtain ⟨rfl, rfl⟩ := hq
    have hW : WD g A s _ _ [(h0, .inr (8, [.ref q, .int (nI n0), .int (nI (skn n0 f0 k0))])), (q, .inl (g.2.1 1, 400, .inl f0))] := hW
    refine lv_if_ne (tgt := 32) (pc := 27) hx hb dX8_number_27 rfl (fun c3 => ?_) (fun c3 => ?_)
    · have hno : ¬ numNo n0 f0 k0 := fun h9 => h9.elim hne c3
      refine lv_aload_n (pc := 32) hx hb dX8_number_32 rfl (lv_at hl 1 rfl) ?_
      refine lv_aload_n (pc := 33) hx hb dX8_number_33 rfl (lv_at hl 1 rfl) ?_
      refine r_get X hW 0 ciX8 2 rfl (by decide) m_39 rfl rfl dX8_number_34 ?_
      refine c_Vi (pc := 37) (As := [.int (nI (skn n0 f0 k0))]) (rest := []) (wr := []) X hW 0 ciX8 rfl (C_X8_atG l g h0 q f0 n0 hn0 (nI (skn n0 f0 k0)) (nI (skn n0 f0 k0))) vX8_38 [0, 1] [] rfl rfl rfl rfl rfl rfl hl.1 rfl (Nat.le_of_ble_eq_true rfl) ⟨Nat.le_of_ble_eq_true rfl, Nat.le_of_ble_eq_true rfl⟩ ⟨Nat.le_of_ble_eq_true rfl, Nat.le_of_ble_eq_true rfl⟩ dX8_number_37 (fun r4 u9 H locs hq hW => ?_)
      obtain ⟨rfl, rfl⟩ := hq
      have hW : WD g A s _ _ [(h0, .inr (8, [.ref q, .int (nI n0), .int (nI (skn n0 f0 k0))])), (q, .inl (g.2.1 1, 400, .inl f0))] := hW
      refine lv_bipush (v := 48) (pc := 40) hx hb dX8_number_40 (by decide) ?_
      refine lv_isub (pc := 42) hx hb dX8_number_42 ?_
      refine lv_topi (fun v5 ev5 => ?_)
      obtain rfl : v5 = atv n0 f0 (nI (skn n0 f0 k0)) - 48 := ev5.trans (rfl)
      refine lv_istore (lv' := [(5, .int (atv n0 f0 (nI (skn n0 f0 k0)) - 48)), (4, .int (nI k0)), (0, .ref h0), (1, .int lo), (2, .int hi), (3, .int un)]) (pc := 43) hx hb dX8_number_43 hl (by decide) rfl (fun ls hl => ?_)
      refine lv_aload_n (pc := 45) hx hb dX8_number_45 rfl (lv_at hl 2 rfl) ?_
      refine lv_aload_n (pc := 46) hx hb dX8_number_46 rfl (lv_at hl 2 rfl) ?_
      refine r_get X hW 0 ciX8 2 rfl (by decide) m_39 rfl rfl dX8_number_47 ?_
      refine lv_iconst (v := 1) (pc := 50) hx hb dX8_number_50 (by decide) ?_
      refine lv_iadd (pc := 51) hx hb dX8_number_51 ?_
      refine lv_topi (fun v6 ev6 => ?_)
      obtain rfl : v6 = nI (skn n0 f0 k0 + 1) := ev6.trans (nI_1 _)
      refine c_Vi (pc := 52) (As := [.int (nI (skn n0 f0 k0 + 1))]) (rest := []) (wr := []) X hW 0 ciX8 rfl (C_X8_isDigitG l g h0 q f0 n0 hn0 (nI (skn n0 f0 k0)) (nI (skn n0 f0 k0 + 1))) vX8_83 [0, 1] [] rfl rfl rfl rfl rfl rfl hl.1 rfl (Nat.le_of_ble_eq_true rfl) ⟨Nat.le_of_ble_eq_true rfl, Nat.le_of_ble_eq_true rfl⟩ ⟨Nat.le_of_ble_eq_true rfl, Nat.le_of_ble_eq_true rfl⟩ dX8_number_52 (fun r7 u9 H locs hq hW => ?_)
      obtain ⟨rfl, rfl⟩ := hq
      have hW : WD g A s _ _ [(h0, .inr (8, [.ref q, .int (nI n0), .int (nI (skn n0 f0 k0))])), (q, .inl (g.2.1 1, 400, .inl f0))] := hW
      refine lv_if_eq (tgt := 87) (pc := 55) hx hb dX8_number_55 rfl (fun c8 => ?_) (fun c8 => ?_)
      · have hd2 := c8
        rw [show atv n0 f0 (nI (skn n0 f0 k0)) - 48 = nval n0 f0 k0 from (if_pos hd2).symm] at hl
        rw [show nI (skn n0 f0 k0) = nI (nk2 n0 f0 k0) from congrArg nI (if_pos hd2).symm] at hW
        have hk2 := nk2_le hn0 hk0 hno
        refine lv_iload (pc := 87) hx hb dX8_number_87 (lv_at hl 0 rfl) ?_
        refine lv_iload_n (pc := 89) hx hb dX8_number_89 rfl (lv_at hl 3 rfl) ?_
        refine lv_icmp_lt (tgt := 105) (pc := 90) hx hb dX8_number_90 rfl (fun c9 => ?_) (fun c9 => ?_)
        · obtain ⟨e1, e2⟩ := num_bad (lo := lo) (hi := hi) (un := un) hno (Or.inl c9)
          refine lv_iconst (v := (-1)) (pc := 105) hx hb dX8_number_105 (by decide) ?_
          exact e_i X hQ hr hW (u := [(h0, .inr (8, [.ref q, .int (nI n0), .int (nI (nk2 n0 f0 k0))])), (q, .inl (g.2.1 1, 400, .inl f0))]) [0, 1] rfl rfl (⟨e1.symm, by rw [e2]⟩) ⟨Nat.le_of_ble_eq_true rfl, Nat.le_of_ble_eq_true rfl⟩ dX8_number_106
        · have hb1 := c9
          refine lv_iload (pc := 93) hx hb dX8_number_93 (lv_at hl 0 rfl) ?_
          refine lv_iload_n (pc := 95) hx hb dX8_number_95 rfl (lv_at hl 4 rfl) ?_
          refine lv_icmp_gt (tgt := 105) (pc := 96) hx hb dX8_number_96 rfl (fun c10 => ?_) (fun c10 => ?_)
          · obtain ⟨e1, e2⟩ := num_bad (lo := lo) (hi := hi) (un := un) hno (Or.inr <| Or.inl c10)
            refine lv_iconst (v := (-1)) (pc := 105) hx hb dX8_number_105 (by decide) ?_
            exact e_i X hQ hr hW (u := [(h0, .inr (8, [.ref q, .int (nI n0), .int (nI (nk2 n0 f0 k0))])), (q, .inl (g.2.1 1, 400, .inl f0))]) [0, 1] rfl rfl (⟨e1.symm, by rw [e2]⟩) ⟨Nat.le_of_ble_eq_true rfl, Nat.le_of_ble_eq_true rfl⟩ dX8_number_106
          · have hb2 := c10
            refine lv_iload (pc := 99) hx hb dX8_number_99 (lv_at hl 0 rfl) ?_
            refine lv_iload_n (pc := 101) hx hb dX8_number_101 rfl (lv_at hl 5 rfl) ?_
            refine lv_icmp_ne (tgt := 107) (pc := 102) hx hb dX8_number_102 rfl (fun c11 => ?_) (fun c11 => ?_)
            · obtain ⟨e1, e2⟩ := num_ok (lo := lo) (hi := hi) (un := un) hno (fun h9 => h9.elim hb1 (fun h9 => h9.elim hb2 c11))
              refine lv_aload_n (pc := 107) hx hb dX8_number_107 rfl (lv_at hl 2 rfl) ?_
              refine lv_dup (pc := 108) hx hb dX8_number_108 rfl ?_
              refine r_get X hW 0 ciX8 2 rfl (by decide) m_39 rfl rfl dX8_number_109 ?_
              refine lv_iconst (v := 1) (pc := 112) hx hb dX8_number_112 (by decide) ?_
              refine lv_iadd (pc := 113) hx hb dX8_number_113 ?_
              refine lv_topi (fun v12 ev12 => ?_)
              obtain rfl : v12 = nI (nk2 n0 f0 k0 + 1) := ev12.trans (nI_1 _)
              refine r_put (ws' := [(h0, .inr (8, [.ref q, .int (nI n0), .int (nI (nk2 n0 f0 k0 + 1))])), (q, .inl (g.2.1 1, 400, .inl f0))]) X hW 0 ciX8 2 rfl (by decide) m_39 rfl rfl rfl rfl (Nat.le_of_ble_eq_true rfl) rfl dX8_number_114 (fun H locs hW => ?_)
              refine lv_iload (pc := 117) hx hb dX8_number_117 (lv_at hl 0 rfl) ?_
              exact e_i X hQ hr hW (u := [(h0, .inr (8, [.ref q, .int (nI n0), .int (nI (nk2 n0 f0 k0 + 1))])), (q, .inl (g.2.1 1, 400, .inl f0))]) [0, 1] rfl rfl (⟨e1.symm, by rw [e2]⟩) ⟨Nat.le_of_ble_eq_true rfl, Nat.le_of_ble_eq_true rfl⟩ dX8_number_119
            · obtain ⟨e1, e2⟩ := num_bad (lo := lo) (hi := hi) (un := un) hno (Or.inr <| Or.inr c11)
              refine lv_iconst (v := (-1)) (pc := 105) hx hb dX8_number_105 (by decide) ?_
              exact e_i X hQ hr hW (u := [(h0, .inr (8, [.ref q, .int (nI n0), .int (nI (nk2 n0 f0 k0))])), (q, .inl (g.2.1 1, 400, .inl f0))]) [0, 1] rfl rfl (⟨e1.symm, by rw [e2]⟩) ⟨Nat.le_of_ble_eq_true rfl, Nat.le_of_ble_eq_true rfl⟩ dX8_number_106
      · have hd2 := c8
        refine lv_aload_n (pc := 58) hx hb dX8_number_58 rfl (lv_at hl 2 rfl) ?_
        refine lv_dup (pc := 59) hx hb dX8_number_59 rfl ?_
        refine r_get X hW 0 ciX8 2 rfl (by decide) m_39 rfl rfl dX8_number_60 ?_
        refine lv_iconst (v := 1) (pc := 63) hx hb dX8_number_63 (by decide) ?_
        refine lv_iadd (pc := 64) hx hb dX8_number_64 ?_
        refine lv_topi (fun v13 ev13 => ?_)
        obtain rfl : v13 = nI (skn n0 f0 k0 + 1) := ev13.trans (nI_1 _)
        refine r_put (ws' := [(h0, .inr (8, [.ref q, .int (nI n0), .int (nI (skn n0 f0 k0 + 1))])), (q, .inl (g.2.1 1, 400, .inl f0))]) X hW 0 ciX8 2 rfl (by decide) m_39 rfl rfl rfl rfl (Nat.le_of_ble_eq_true rfl) rfl dX8_number_65 (fun H locs hW => ?_)
        refine lv_iload (pc := 68) hx hb dX8_number_68 (lv_at hl 0 rfl) ?_
        refine lv_bipush (v := 10) (pc := 70) hx hb dX8_number_70 (by decide) ?_
        refine lv_imul (pc := 72) hx hb dX8_number_72 ?_
        refine lv_aload_n (pc := 73) hx hb dX8_number_73 rfl (lv_at hl 2 rfl) ?_
        refine lv_aload_n (pc := 74) hx hb dX8_number_74 rfl (lv_at hl 2 rfl) ?_
        refine r_get X hW 0 ciX8 2 rfl (by decide) m_39 rfl rfl dX8_number_75 ?_
        refine c_Vi (pc := 78) (As := [.int (nI (skn n0 f0 k0 + 1))]) (rest := [.int ((atv n0 f0 (nI (skn n0 f0 k0)) - 48) * 10)]) (wr := []) X hW 0 ciX8 rfl (C_X8_atG l g h0 q f0 n0 hn0 (nI (skn n0 f0 k0 + 1)) (nI (skn n0 f0 k0 + 1))) vX8_38 [0, 1] [] rfl rfl rfl rfl rfl rfl hl.1 rfl (Nat.le_of_ble_eq_true rfl) ⟨Nat.le_of_ble_eq_true rfl, Nat.le_of_ble_eq_true rfl⟩ ⟨Nat.le_of_ble_eq_true rfl, Nat.le_of_ble_eq_true rfl⟩ dX8_number_78 (fun r14 u9 H locs hq hW => ?_)
        obtain ⟨rfl, rfl⟩ := hq
        have hW : WD g A s _ _ [(h0, .inr (8, [.ref q, .int (nI n0), .int (nI (skn n0 f0 k0 + 1))])), (q, .inl (g.2.1 1, 400, .inl f0))] := hW
        refine lv_iadd (pc := 81) hx hb dX8_number_81 ?_
        refine lv_bipush (v := 48) (pc := 82) hx hb dX8_number_82 (by decide) ?_
        refine lv_isub (pc := 84) hx hb dX8_number_84 ?_
        refine lv_topi (fun v15 ev15 => ?_)
        obtain rfl : v15 = (atv n0 f0 (nI (skn n0 f0 k0)) - 48) * 10 + atv n0 f0 (nI (skn n0 f0 k0 + 1)) - 48 := ev15.trans (rfl)
        refine lv_istore (lv' := [(5, .int ((atv n0 f0 (nI (skn n0 f0 k0)) - 48) * 10 + atv n0 f0 (nI (skn n0 f0 k0 + 1)) - 48)), (4, .int (nI k0)), (0, .ref h0), (1, .int lo), (2, .int hi), (3, .int un)]) (pc := 85) hx hb dX8_number_85 hl (by decide) rfl (fun ls hl => ?_)
        rw [show (atv n0 f0 (nI (skn n0 f0 k0)) - 48) * 10 + atv n0 f0 (nI (skn n0 f0 k0 + 1)) - 48 = nval n0 f0 k0 from (if_neg hd2).symm] at hl
        rw [show nI (skn n0 f0 k0 + 1) = nI (nk2 n0 f0 k0) from congrArg nI (if_neg hd2).symm] at hW
        have hk2 := nk2_le hn0 hk0 hno
        refine lv_iload (pc := 87) hx hb dX8_number_87 (lv_at hl 0 rfl) ?_
        refine lv_iload_n (pc := 89) hx hb dX8_number_89 rfl (lv_at hl 3 rfl) ?_
        refine lv_icmp_lt (tgt := 105) (pc := 90) hx hb dX8_number_90 rfl (fun c16 => ?_) (fun c16 => ?_)
        · obtain ⟨e1, e2⟩ := num_bad (lo := lo) (hi := hi) (un := un) hno (Or.inl c16)
          refine lv_iconst (v := (-1)) (pc := 105) hx hb dX8_number_105 (by decide) ?_
          exact e_i X hQ hr hW (u := [(h0, .inr (8, [.ref q, .int (nI n0), .int (nI (nk2 n0 f0 k0))])), (q, .inl (g.2.1 1, 400, .inl f0))]) [0, 1] rfl rfl (⟨e1.symm, by rw [e2]⟩) ⟨Nat.le_of_ble_eq_true rfl, Nat.le_of_ble_eq_true rfl⟩ dX8_number_106
        · have hb1 := c16
          refine lv_iload (pc := 93) hx hb dX8_number_93 (lv_at hl 0 rfl) ?_
          refine lv_iload_n (pc := 95) hx hb dX8_number_95 rfl (lv_at hl 4 rfl) ?_
          refine lv_icmp_gt (tgt := 105) (pc := 96) hx hb dX8_number_96 rfl (fun c17 => ?_) (fun c17 => ?_)
          · obtain ⟨e1, e2⟩ := num_bad (lo := lo) (hi := hi) (un := un) hno (Or.inr <| Or.inl c17)
            refine lv_iconst (v := (-1)) (pc := 105) hx hb dX8_number_105 (by decide) ?_
            exact e_i X hQ hr hW (u := [(h0, .inr (8, [.ref q, .int (nI n0), .int (nI (nk2 n0 f0 k0))])), (q, .inl (g.2.1 1, 400, .inl f0))]) [0, 1] rfl rfl (⟨e1.symm, by rw [e2]⟩) ⟨Nat.le_of_ble_eq_true rfl, Nat.le_of_ble_eq_true rfl⟩ dX8_number_106
          · have hb2 := c17
            refine lv_iload (pc := 99) hx hb dX8_number_99 (lv_at hl 0 rfl) ?_
            refine lv_iload_n (pc := 101) hx hb dX8_number_101 rfl (lv_at hl 5 rfl) ?_
            refine lv_icmp_ne (tgt := 107) (pc := 102) hx hb dX8_number_102 rfl (fun c18 => ?_) (fun c18 => ?_)
            · obtain ⟨e1, e2⟩ := num_ok (lo := lo) (hi := hi) (un := un) hno (fun h9 => h9.elim hb1 (fun h9 => h9.elim hb2 c18))
              refine lv_aload_n (pc := 107) hx hb dX8_number_107 rfl (lv_at hl 2 rfl) ?_
              refine lv_dup (pc := 108) hx hb dX8_number_108 rfl ?_
              refine r_get X hW 0 ciX8 2 rfl (by decide) m_39 rfl rfl dX8_number_109 ?_
              refine lv_iconst (v := 1) (pc := 112) hx hb dX8_number_112 (by decide) ?_
              refine lv_iadd (pc := 113) hx hb dX8_number_113 ?_
              refine lv_topi (fun v19 ev19 => ?_)
              obtain rfl : v19 = nI (nk2 n0 f0 k0 + 1) := ev19.trans (nI_1 _)
              refine r_put (ws' := [(h0, .inr (8, [.ref q, .int (nI n0), .int (nI (nk2 n0 f0 k0 + 1))])), (q, .inl (g.2.1 1, 400, .inl f0))]) X hW 0 ciX8 2 rfl (by decide) m_39 rfl rfl rfl rfl (Nat.le_of_ble_eq_true rfl) rfl dX8_number_114 (fun H locs hW => ?_)
              refine lv_iload (pc := 117) hx hb dX8_number_117 (lv_at hl 0 rfl) ?_
              exact e_i X hQ hr hW (u := [(h0, .inr (8, [.ref q, .int (nI n0), .int (nI (nk2 n0 f0 k0 + 1))])), (q, .inl (g.2.1 1, 400, .inl f0))]) [0, 1] rfl rfl (⟨e1.symm, by rw [e2]⟩) ⟨Nat.le_of_ble_eq_true rfl, Nat.le_of_ble_eq_true rfl⟩ dX8_number_119
            · obtain ⟨e1, e2⟩ := num_bad (lo := lo) (hi := hi) (un := un) hno (Or.inr <| Or.inr c18)
              refine lv_iconst (v := (-1)) (pc := 105) hx hb dX8_number_105 (by decide) ?_
              exact e_i X hQ hr hW (u := [(h0, .inr (8, [.ref q, .int (nI n0), .int (nI (nk2 n0 f0 k0))])), (q, .inl (g.2.1 1, 400, .inl f0))]) [0, 1] rfl rfl (⟨e1.symm, by rw [e2]⟩) ⟨Nat.le_of_ble_eq_true rfl, Nat.le_of_ble_eq_true rfl⟩ dX8_number_106
    · obtain ⟨e1, e2⟩ := num_no (n := n0) (f := f0) (k := k0) (lo := lo) (hi := hi) (un := un) (Or.inr c3)
      refine lv_iconst (v := (-1)) (pc := 30) hx hb dX8_number_30 (by decide) ?_
      exact e_i X hQ hr hW (u := [(h0, .inr (8, [.ref q, .int (nI n0), .int (nI (skn n0 f0 k0))])), (q, .inl (g.2.1 1, 400, .inl f0))]) [0, 1] rfl rfl (⟨e1.symm, by rw [e2]⟩) ⟨Nat.le_of_ble_eq_true rfl, Nat.le_of_ble_eq_true rfl⟩ dX8_number_31

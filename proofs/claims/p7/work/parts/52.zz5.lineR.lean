theorem dX12_line_10 : decode cX12_line 10 = .ok (.iload_n 3, 1) := by decide +kernel
theorem dX12_line_11 : decode cX12_line 11 = .ok (.iconst 0, 1) := by decide +kernel
theorem dX12_line_12 : decode cX12_line 12 = .ok (.iconst 5, 1) := by decide +kernel
theorem dX12_line_13 : decode cX12_line 13 = .ok (.invokestatic 198, 3) := by decide +kernel
theorem dX12_line_16 : decode cX12_line 16 = .ok (.ifCond .eq 7, 3) := by decide +kernel
theorem dX12_line_19 : decode cX12_line 19 = .ok (.iconst 0, 1) := by decide +kernel
theorem dX12_line_20 : decode cX12_line 20 = .ok (.goto 4, 3) := by decide +kernel
theorem dX12_line_36 : decode cX12_line 36 = .ok (.bipush 12, 2) := by decide +kernel
theorem dX12_line_38 : decode cX12_line 38 = .ok (.iload_n 1, 1) := by decide +kernel
theorem dX12_line_39 : decode cX12_line 39 = .ok (.imul, 1) := by decide +kernel
theorem dX12_line_40 : decode cX12_line 40 = .ok (.iload_n 2, 1) := by decide +kernel
theorem dX12_line_41 : decode cX12_line 41 = .ok (.iadd, 1) := by decide +kernel
theorem dX12_line_42 : decode cX12_line 42 = .ok (.istore 4, 2) := by decide +kernel
theorem dX12_line_44 : decode cX12_line 44 = .ok (.iload_n 3, 1) := by decide +kernel
theorem dX12_line_45 : decode cX12_line 45 = .ok (.tableswitch 83 0 4 #[35, 43, 51, 59, 67], 35) := by decide +kernel
theorem dX12_line_80 : decode cX12_line 80 = .ok (.aload_n 0, 1) := by decide +kernel
theorem dX12_line_81 : decode cX12_line 81 = .ok (.getfield 32, 3) := by decide +kernel
theorem dX12_line_84 : decode cX12_line 84 = .ok (.iload 4, 2) := by decide +kernel
theorem dX12_line_86 : decode cX12_line 86 = .ok (.iaload, 1) := by decide +kernel
theorem dX12_line_87 : decode cX12_line 87 = .ok (.ireturn, 1) := by decide +kernel
theorem dX12_line_88 : decode cX12_line 88 = .ok (.aload_n 0, 1) := by decide +kernel
theorem dX12_line_89 : decode cX12_line 89 = .ok (.getfield 35, 3) := by decide +kernel
theorem dX12_line_92 : decode cX12_line 92 = .ok (.iload 4, 2) := by decide +kernel
theorem dX12_line_94 : decode cX12_line 94 = .ok (.iaload, 1) := by decide +kernel
theorem dX12_line_95 : decode cX12_line 95 = .ok (.ireturn, 1) := by decide +kernel
theorem dX12_line_96 : decode cX12_line 96 = .ok (.aload_n 0, 1) := by decide +kernel
theorem dX12_line_97 : decode cX12_line 97 = .ok (.getfield 38, 3) := by decide +kernel
theorem dX12_line_100 : decode cX12_line 100 = .ok (.iload 4, 2) := by decide +kernel
theorem dX12_line_102 : decode cX12_line 102 = .ok (.iaload, 1) := by decide +kernel
theorem dX12_line_103 : decode cX12_line 103 = .ok (.ireturn, 1) := by decide +kernel
theorem dX12_line_104 : decode cX12_line 104 = .ok (.aload_n 0, 1) := by decide +kernel
theorem dX12_line_105 : decode cX12_line 105 = .ok (.getfield 41, 3) := by decide +kernel
theorem dX12_line_108 : decode cX12_line 108 = .ok (.iload 4, 2) := by decide +kernel
theorem dX12_line_110 : decode cX12_line 110 = .ok (.iaload, 1) := by decide +kernel
theorem dX12_line_111 : decode cX12_line 111 = .ok (.ireturn, 1) := by decide +kernel
theorem dX12_line_112 : decode cX12_line 112 = .ok (.aload_n 0, 1) := by decide +kernel
theorem dX12_line_113 : decode cX12_line 113 = .ok (.getfield 47, 3) := by decide +kernel
theorem dX12_line_116 : decode cX12_line 116 = .ok (.iload 4, 2) := by decide +kernel
theorem dX12_line_118 : decode cX12_line 118 = .ok (.baload, 1) := by decide +kernel
theorem dX12_line_119 : decode cX12_line 119 = .ok (.ifCond .eq 7, 3) := by decide +kernel
theorem dX12_line_126 : decode cX12_line 126 = .ok (.iconst 0, 1) := by decide +kernel
theorem dX12_line_127 : decode cX12_line 127 = .ok (.ireturn, 1) := by decide +kernel
theorem dX12_line_122 : decode cX12_line 122 = .ok (.iconst 1, 1) := by decide +kernel
theorem dX12_line_123 : decode cX12_line 123 = .ok (.goto 4, 3) := by decide +kernel
theorem dX12_line_128 : decode cX12_line 128 = .ok (.aload_n 0, 1) := by decide +kernel
theorem dX12_line_129 : decode cX12_line 129 = .ok (.getfield 44, 3) := by decide +kernel
theorem dX12_line_132 : decode cX12_line 132 = .ok (.iload 4, 2) := by decide +kernel
theorem dX12_line_134 : decode cX12_line 134 = .ok (.iaload, 1) := by decide +kernel
theorem dX12_line_135 : decode cX12_line 135 = .ok (.ireturn, 1) := by decide +kernel
theorem m_1424 : (Cond.code yX12_thrown prog_14_method_2_code 1 (Option.some FieldType.int)) ∈ BW := bw (tb6 224 rfl) (by decide +kernel)
theorem dX12_thrown_0 : decode cX12_thrown 0 = .ok (.aload_n 0, 1) := by decide +kernel
theorem dX12_thrown_1 : decode cX12_thrown 1 = .ok (.getfield 160, 3) := by decide +kernel
theorem dX12_thrown_4 : decode cX12_thrown 4 = .ok (.ireturn, 1) := by decide +kernel
def F_X12_line1 (rA : Nat → Int32) (rB : Nat → Int32) (rF : Nat → Int32) (rT : Nat → Int32) (rW : Nat → Int32) (rO : Nat → Int32) (x : Int32) (y : Int32) (z : Int32) : Int32 := if z = 0 then (rA (12 * (tN x) + tN y)) else (if z = 1 then (rB (12 * (tN x) + tN y)) else (if z = 2 then (rF (12 * (tN x) + tN y)) else (if z = 3 then (rT (12 * (tN x) + tN y)) else (if z = 4 then (if rO (12 * (tN x) + tN y) = 0 then ((0 : Int32)) else ((1 : Int32))) else (rW (12 * (tN x) + tN y))))))
set_option maxHeartbeats 4000000 in
set_option maxRecDepth 100000 in
theorem K_X12_line1 (l : Launch) (g : GG) (h0 : Nat) (vs : List Value) (nv : Nat) (b7 : Nat) (rL : Nat → Int32) (b12 : Nat) (rA : Nat → Int32) (b13 : Nat) (rB : Nat → Int32) (b14 : Nat) (rF : Nat → Int32) (b15 : Nat) (rT : Nat → Int32) (b16 : Nat) (rW : Nat → Int32) (b17 : Nat) (rO : Nat → Int32) (x : Int32) (y : Int32) (z : Int32) (hlen : vs.length = 64) (h18_ : vs[18]? = some (.int (nI nv))) (h7_ : vs[7]? = some (.ref b7)) (h12_ : vs[12]? = some (.ref b12)) (h13_ : vs[13]? = some (.ref b13)) (h14_ : vs[14]? = some (.ref b14)) (h15_ : vs[15]? = some (.ref b15)) (h16_ : vs[16]? = some (.ref b16)) (h17_ : vs[17]? = some (.ref b17)) (hn : nv ≤ 10) (hLc : ∀ j : Nat, j < nv → rL j = nI (tN (rL j)) ∧ tN (rL j) ≤ 12) (hv : ¬ F_X12_isLine nv rL x y = 0) (hz : ¬ F_X12_isIn z 0 5 = 0) : MetI l g yX12_line cX12_line 5 (some .int) 2 0 0 [.ref h0, .int x, .int y, .int z] [(h0, .inr (12, vs)), (b7, .inl (g.2.1 1, 11, .inl rL)), (b12, .inl (g.2.1 1, 132, .inl rA)), (b13, .inl (g.2.1 1, 132, .inl rB)), (b14, .inl (g.2.1 1, 132, .inl rF)), (b15, .inl (g.2.1 1, 132, .inl rT)), (b16, .inl (g.2.1 1, 132, .inl rW)), (b17, .inl (g.2.1 3, 132, .inl rO))] (fun r u => r = (F_X12_line1 rA rB rF rT rW rO x y z) ∧ u = [(h0, .inr (12, (vs.set 0 (.int 0)))), (b7, .inl (g.2.1 1, 11, .inl rL)), (b12, .inl (g.2.1 1, 132, .inl rA)), (b13, .inl (g.2.1 1, 132, .inl rB)), (b14, .inl (g.2.1 1, 132, .inl rF)), (b15, .inl (g.2.1 1, 132, .inl rT)), (b16, .inl (g.2.1 1, 132, .inl rW)), (b17, .inl (g.2.1 3, 132, .inl rO))]) := by
  refine MetI.of (own := RX12) rfl (by decide) (Nat.le_of_ble_eq_true rfl) ?_
  intro p e s m below meth c A ls args Q hQ X hr hin hW hl
  have hx := X.1
  have hb := X.2.1
  have hl : lv_has ls 5 [(0, .ref h0), (1, .int x), (2, .int y), (3, .int z)] := hl
  refine lv_aload_n (pc := 0) hx hb dX12_line_0 rfl (lv_at hl 0 rfl) ?_
  refine lv_aload_n (pc := 1) hx hb dX12_line_1 rfl (lv_at hl 0 rfl) ?_
  refine lv_iload_n (pc := 2) hx hb dX12_line_2 rfl (lv_at hl 1 rfl) ?_
  refine lv_iload_n (pc := 3) hx hb dX12_line_3 rfl (lv_at hl 2 rfl) ?_
  refine c_Vi (pc := 4) (As := [.int x, .int y]) (rest := [.ref h0]) (wr := [(b12, .inl (g.2.1 1, 132, .inl rA)), (b13, .inl (g.2.1 1, 132, .inl rB)), (b14, .inl (g.2.1 1, 132, .inl rF)), (b15, .inl (g.2.1 1, 132, .inl rT)), (b16, .inl (g.2.1 1, 132, .inl rW)), (b17, .inl (g.2.1 3, 132, .inl rO))]) X hW 0 ciX12 rfl (K_X12_isLine l g h0 vs nv b7 rL x y hlen h18_ h7_ (by omega)) vX12_224 [0, 1] [2, 3, 4, 5, 6, 7] rfl rfl rfl rfl rfl rfl hl.1 rfl (Nat.le_of_ble_eq_true rfl) ⟨Nat.le_of_ble_eq_true rfl, Nat.le_of_ble_eq_true rfl⟩ ⟨Nat.le_of_ble_eq_true rfl, Nat.le_of_ble_eq_true rfl⟩ dX12_line_4 (fun r1 u9 H locs hq hW => ?_)
  obtain ⟨rfl, rfl⟩ := hq
  have hW : WD g A s _ _ [(b12, .inl (g.2.1 1, 132, .inl rA)), (b13, .inl (g.2.1 1, 132, .inl rB)), (b14, .inl (g.2.1 1, 132, .inl rF)), (b15, .inl (g.2.1 1, 132, .inl rT)), (b16, .inl (g.2.1 1, 132, .inl rW)), (b17, .inl (g.2.1 3, 132, .inl rO)), (h0, .inr (12, vs)), (b7, .inl (g.2.1 1, 11, .inl rL))] := hW
  refine lv_if_eq (tgt := 23) (pc := 7) hx hb dX12_line_7 rfl (fun c2 => absurd c2 hv) (fun c2 => ?_)
  refine lv_iload_n (pc := 10) hx hb dX12_line_10 rfl (lv_at hl 3 rfl) ?_
  refine lv_iconst (v := 0) (pc := 11) hx hb dX12_line_11 (by decide) ?_
  refine lv_iconst (v := 5) (pc := 12) hx hb dX12_line_12 (by decide) ?_
  refine c_Si (pc := 13) (As := [.int z, .int 0, .int 5]) (rest := [.ref h0]) (wr := [(b12, .inl (g.2.1 1, 132, .inl rA)), (b13, .inl (g.2.1 1, 132, .inl rB)), (b14, .inl (g.2.1 1, 132, .inl rF)), (b15, .inl (g.2.1 1, 132, .inl rT)), (b16, .inl (g.2.1 1, 132, .inl rW)), (b17, .inl (g.2.1 3, 132, .inl rO)), (h0, .inr (12, vs)), (b7, .inl (g.2.1 1, 11, .inl rL))]) X hW (K_X12_isIn l g z (0 : Int32) (5 : Int32)) vX12_198 [] [0, 1, 2, 3, 4, 5, 6, 7] rfl rfl rfl rfl rfl rfl hl.1 rfl (Nat.le_of_ble_eq_true rfl) ⟨Nat.le_of_ble_eq_true rfl, Nat.le_of_ble_eq_true rfl⟩ ⟨Nat.le_of_ble_eq_true rfl, Nat.le_of_ble_eq_true rfl⟩ dX12_line_13 (fun r3 u9 H locs hq hW => ?_)
  obtain ⟨rfl, rfl⟩ := hq
  have hW : WD g A s _ _ [(b12, .inl (g.2.1 1, 132, .inl rA)), (b13, .inl (g.2.1 1, 132, .inl rB)), (b14, .inl (g.2.1 1, 132, .inl rF)), (b15, .inl (g.2.1 1, 132, .inl rT)), (b16, .inl (g.2.1 1, 132, .inl rW)), (b17, .inl (g.2.1 3, 132, .inl rO)), (h0, .inr (12, vs)), (b7, .inl (g.2.1 1, 11, .inl rL))] := hW
  refine lv_if_eq (tgt := 23) (pc := 16) hx hb dX12_line_16 rfl (fun c4 => absurd c4 hz) (fun c4 => ?_)
  refine lv_iconst (v := 0) (pc := 19) hx hb dX12_line_19 (by decide) ?_
  refine lv_goto (tgt := 24) (pc := 20) hx hb dX12_line_20 rfl ?_
  refine r_put (ws' := [(b12, .inl (g.2.1 1, 132, .inl rA)), (b13, .inl (g.2.1 1, 132, .inl rB)), (b14, .inl (g.2.1 1, 132, .inl rF)), (b15, .inl (g.2.1 1, 132, .inl rT)), (b16, .inl (g.2.1 1, 132, .inl rW)), (b17, .inl (g.2.1 3, 132, .inl rO)), (h0, .inr (12, (vs.set 0 (.int 0)))), (b7, .inl (g.2.1 1, 11, .inl rL))]) X hW 6 ciX12 0 rfl (by decide) m_1231 rfl rfl rfl rfl (sv_lt (by decide) hlen) rfl dX12_line_24 (fun H locs hW => ?_)
  refine lv_aload_n (pc := 27) hx hb dX12_line_27 rfl (lv_at hl 0 rfl) ?_
  refine r_get X hW 6 ciX12 0 rfl (by decide) m_1231 rfl (sv_eq (k := 0) (n := 64) (by decide) hlen) dX12_line_28 ?_
  refine lv_if_le (tgt := 36) (pc := 31) hx hb dX12_line_31 rfl (fun c5 => ?_) (fun c5 => absurd (by decide) c5)
  obtain ⟨⟨dx1, dx2⟩, dy1, dy2⟩ := rl_at hn hv
  obtain ⟨ey1, ey2⟩ := pm1_at (hLc (tN x) (by omega)).1 (by have := (hLc (tN x) (by omega)).2; omega) dy1 dy2
  have hL12 := (hLc (tN x) (by omega)).2
  rw [dx1] at hl
  rw [ey1] at hl
  refine lv_bipush (v := 12) (pc := 36) hx hb dX12_line_36 (by decide) ?_
  refine lv_iload_n (pc := 38) hx hb dX12_line_38 rfl (lv_at hl 1 rfl) ?_
  refine lv_imul (pc := 39) hx hb dX12_line_39 ?_
  refine lv_topi (fun v6 ev6 => ?_)
  obtain rfl : v6 = nI (12 * (tN x)) := ev6.trans (pk_mul 12 (tN x))
  refine lv_iload_n (pc := 40) hx hb dX12_line_40 rfl (lv_at hl 2 rfl) ?_
  refine lv_iadd (pc := 41) hx hb dX12_line_41 ?_
  refine lv_topi (fun v7 ev7 => ?_)
  obtain rfl : v7 = nI (12 * (tN x) + tN y) := ev7.trans (nI_add _ _)
  refine lv_istore (lv' := [(4, .int (nI (12 * (tN x) + tN y))), (0, .ref h0), (1, .int (nI (tN x))), (2, .int (nI (tN y))), (3, .int z)]) (pc := 42) hx hb dX12_line_42 hl (by decide) rfl (fun ls hl => ?_)
  refine lv_iload_n (pc := 44) hx hb dX12_line_44 rfl (lv_at hl 4 rfl) ?_
  by_cases c8 : z = 0
  · rw [c8]
    refine lv_tableIn (pc := 45) (off := 35) (tgt := 80) hx hb dX12_line_45 (by decide) (by decide) rfl rfl ?_
    refine lv_aload_n (pc := 80) hx hb dX12_line_80 rfl (lv_at hl 1 rfl) ?_
    refine r_get X hW 6 ciX12 12 rfl (by decide) m_1243 rfl (sv_ne (k := 0) (by decide) h12_) dX12_line_81 ?_
    refine lv_iload (pc := 84) hx hb dX12_line_84 (lv_at hl 0 rfl) ?_
    refine r_iald X hW 0 rfl (vp_in_nI (by omega) (by decide)) dX12_line_86 ?_
    refine lv_topi (fun v9 ev9 => ?_)
    obtain rfl : v9 = rA (12 * (tN x) + tN y) := ev9.trans (by rw [nI_clamp (by omega)])
    have hF : F_X12_line1 rA rB rF rT rW rO x y z = rA (12 * (tN x) + tN y) := show F_X12_line1 rA rB rF rT rW rO x y z = rA (12 * (tN x) + tN y) from by rw [F_X12_line1, if_pos c8]
    exact e_i (u := [(h0, .inr (12, (vs.set 0 (.int 0)))), (b7, .inl (g.2.1 1, 11, .inl rL)), (b12, .inl (g.2.1 1, 132, .inl rA)), (b13, .inl (g.2.1 1, 132, .inl rB)), (b14, .inl (g.2.1 1, 132, .inl rF)), (b15, .inl (g.2.1 1, 132, .inl rT)), (b16, .inl (g.2.1 1, 132, .inl rW)), (b17, .inl (g.2.1 3, 132, .inl rO))]) X hQ hr (hW) [6, 7, 0, 1, 2, 3, 4, 5] rfl rfl (⟨hF.symm, rfl⟩) ⟨Nat.le_of_ble_eq_true rfl, Nat.le_of_ble_eq_true rfl⟩ dX12_line_87
  · by_cases c10 : z = 1
    · rw [c10]
      refine lv_tableIn (pc := 45) (off := 43) (tgt := 88) hx hb dX12_line_45 (by decide) (by decide) rfl rfl ?_
      refine lv_aload_n (pc := 88) hx hb dX12_line_88 rfl (lv_at hl 1 rfl) ?_
      refine r_get X hW 6 ciX12 13 rfl (by decide) m_1244 rfl (sv_ne (k := 0) (by decide) h13_) dX12_line_89 ?_
      refine lv_iload (pc := 92) hx hb dX12_line_92 (lv_at hl 0 rfl) ?_
      refine r_iald X hW 1 rfl (vp_in_nI (by omega) (by decide)) dX12_line_94 ?_
      refine lv_topi (fun v11 ev11 => ?_)
      obtain rfl : v11 = rB (12 * (tN x) + tN y) := ev11.trans (by rw [nI_clamp (by omega)])
      have hF : F_X12_line1 rA rB rF rT rW rO x y z = rB (12 * (tN x) + tN y) := show F_X12_line1 rA rB rF rT rW rO x y z = rB (12 * (tN x) + tN y) from by rw [F_X12_line1, if_neg c8, if_pos c10]
      exact e_i (u := [(h0, .inr (12, (vs.set 0 (.int 0)))), (b7, .inl (g.2.1 1, 11, .inl rL)), (b12, .inl (g.2.1 1, 132, .inl rA)), (b13, .inl (g.2.1 1, 132, .inl rB)), (b14, .inl (g.2.1 1, 132, .inl rF)), (b15, .inl (g.2.1 1, 132, .inl rT)), (b16, .inl (g.2.1 1, 132, .inl rW)), (b17, .inl (g.2.1 3, 132, .inl rO))]) X hQ hr (hW) [6, 7, 0, 1, 2, 3, 4, 5] rfl rfl (⟨hF.symm, rfl⟩) ⟨Nat.le_of_ble_eq_true rfl, Nat.le_of_ble_eq_true rfl⟩ dX12_line_95
    · by_cases c12 : z = 2
      · rw [c12]
        refine lv_tableIn (pc := 45) (off := 51) (tgt := 96) hx hb dX12_line_45 (by decide) (by decide) rfl rfl ?_
        refine lv_aload_n (pc := 96) hx hb dX12_line_96 rfl (lv_at hl 1 rfl) ?_
        refine r_get X hW 6 ciX12 14 rfl (by decide) m_1245 rfl (sv_ne (k := 0) (by decide) h14_) dX12_line_97 ?_
        refine lv_iload (pc := 100) hx hb dX12_line_100 (lv_at hl 0 rfl) ?_
        refine r_iald X hW 2 rfl (vp_in_nI (by omega) (by decide)) dX12_line_102 ?_
        refine lv_topi (fun v13 ev13 => ?_)
        obtain rfl : v13 = rF (12 * (tN x) + tN y) := ev13.trans (by rw [nI_clamp (by omega)])
        have hF : F_X12_line1 rA rB rF rT rW rO x y z = rF (12 * (tN x) + tN y) := show F_X12_line1 rA rB rF rT rW rO x y z = rF (12 * (tN x) + tN y) from by rw [F_X12_line1, if_neg c8, if_neg c10, if_pos c12]
        exact e_i (u := [(h0, .inr (12, (vs.set 0 (.int 0)))), (b7, .inl (g.2.1 1, 11, .inl rL)), (b12, .inl (g.2.1 1, 132, .inl rA)), (b13, .inl (g.2.1 1, 132, .inl rB)), (b14, .inl (g.2.1 1, 132, .inl rF)), (b15, .inl (g.2.1 1, 132, .inl rT)), (b16, .inl (g.2.1 1, 132, .inl rW)), (b17, .inl (g.2.1 3, 132, .inl rO))]) X hQ hr (hW) [6, 7, 0, 1, 2, 3, 4, 5] rfl rfl (⟨hF.symm, rfl⟩) ⟨Nat.le_of_ble_eq_true rfl, Nat.le_of_ble_eq_true rfl⟩ dX12_line_103
      · by_cases c14 : z = 3
        · rw [c14]
          refine lv_tableIn (pc := 45) (off := 59) (tgt := 104) hx hb dX12_line_45 (by decide) (by decide) rfl rfl ?_
          refine lv_aload_n (pc := 104) hx hb dX12_line_104 rfl (lv_at hl 1 rfl) ?_
          refine r_get X hW 6 ciX12 15 rfl (by decide) m_1246 rfl (sv_ne (k := 0) (by decide) h15_) dX12_line_105 ?_
          refine lv_iload (pc := 108) hx hb dX12_line_108 (lv_at hl 0 rfl) ?_
          refine r_iald X hW 3 rfl (vp_in_nI (by omega) (by decide)) dX12_line_110 ?_
          refine lv_topi (fun v15 ev15 => ?_)
          obtain rfl : v15 = rT (12 * (tN x) + tN y) := ev15.trans (by rw [nI_clamp (by omega)])
          have hF : F_X12_line1 rA rB rF rT rW rO x y z = rT (12 * (tN x) + tN y) := show F_X12_line1 rA rB rF rT rW rO x y z = rT (12 * (tN x) + tN y) from by rw [F_X12_line1, if_neg c8, if_neg c10, if_neg c12, if_pos c14]
          exact e_i (u := [(h0, .inr (12, (vs.set 0 (.int 0)))), (b7, .inl (g.2.1 1, 11, .inl rL)), (b12, .inl (g.2.1 1, 132, .inl rA)), (b13, .inl (g.2.1 1, 132, .inl rB)), (b14, .inl (g.2.1 1, 132, .inl rF)), (b15, .inl (g.2.1 1, 132, .inl rT)), (b16, .inl (g.2.1 1, 132, .inl rW)), (b17, .inl (g.2.1 3, 132, .inl rO))]) X hQ hr (hW) [6, 7, 0, 1, 2, 3, 4, 5] rfl rfl (⟨hF.symm, rfl⟩) ⟨Nat.le_of_ble_eq_true rfl, Nat.le_of_ble_eq_true rfl⟩ dX12_line_111
        · by_cases c16 : z = 4
          · rw [c16]
            refine lv_tableIn (pc := 45) (off := 67) (tgt := 112) hx hb dX12_line_45 (by decide) (by decide) rfl rfl ?_
            refine lv_aload_n (pc := 112) hx hb dX12_line_112 rfl (lv_at hl 1 rfl) ?_
            refine r_get X hW 6 ciX12 17 rfl (by decide) m_1248 rfl (sv_ne (k := 0) (by decide) h17_) dX12_line_113 ?_
            refine lv_iload (pc := 116) hx hb dX12_line_116 (lv_at hl 0 rfl) ?_
            refine r_zald X hW 5 rfl (vp_in_nI (by omega) (by decide)) dX12_line_118 ?_
            refine lv_topi (fun v17 ev17 => ?_)
            obtain rfl : v17 = rO (12 * (tN x) + tN y) := ev17.trans (by rw [nI_clamp (by omega)])
            refine lv_if_eq (tgt := 126) (pc := 119) hx hb dX12_line_119 rfl (fun c18 => ?_) (fun c18 => ?_)
            · refine lv_iconst (v := 0) (pc := 126) hx hb dX12_line_126 (by decide) ?_
              have hF : F_X12_line1 rA rB rF rT rW rO x y z = (0 : Int32) := show F_X12_line1 rA rB rF rT rW rO x y z = (0 : Int32) from by rw [F_X12_line1, if_neg c8, if_neg c10, if_neg c12, if_neg c14, if_pos c16, if_pos c18]
              exact e_i (u := [(h0, .inr (12, (vs.set 0 (.int 0)))), (b7, .inl (g.2.1 1, 11, .inl rL)), (b12, .inl (g.2.1 1, 132, .inl rA)), (b13, .inl (g.2.1 1, 132, .inl rB)), (b14, .inl (g.2.1 1, 132, .inl rF)), (b15, .inl (g.2.1 1, 132, .inl rT)), (b16, .inl (g.2.1 1, 132, .inl rW)), (b17, .inl (g.2.1 3, 132, .inl rO))]) X hQ hr (hW) [6, 7, 0, 1, 2, 3, 4, 5] rfl rfl (⟨hF.symm, rfl⟩) ⟨Nat.le_of_ble_eq_true rfl, Nat.le_of_ble_eq_true rfl⟩ dX12_line_127
            · refine lv_iconst (v := 1) (pc := 122) hx hb dX12_line_122 (by decide) ?_
              refine lv_goto (tgt := 127) (pc := 123) hx hb dX12_line_123 rfl ?_
              have hF : F_X12_line1 rA rB rF rT rW rO x y z = (1 : Int32) := show F_X12_line1 rA rB rF rT rW rO x y z = (1 : Int32) from by rw [F_X12_line1, if_neg c8, if_neg c10, if_neg c12, if_neg c14, if_pos c16, if_neg c18]
              exact e_i (u := [(h0, .inr (12, (vs.set 0 (.int 0)))), (b7, .inl (g.2.1 1, 11, .inl rL)), (b12, .inl (g.2.1 1, 132, .inl rA)), (b13, .inl (g.2.1 1, 132, .inl rB)), (b14, .inl (g.2.1 1, 132, .inl rF)), (b15, .inl (g.2.1 1, 132, .inl rT)), (b16, .inl (g.2.1 1, 132, .inl rW)), (b17, .inl (g.2.1 3, 132, .inl rO))]) X hQ hr (hW) [6, 7, 0, 1, 2, 3, 4, 5] rfl rfl (⟨hF.symm, rfl⟩) ⟨Nat.le_of_ble_eq_true rfl, Nat.le_of_ble_eq_true rfl⟩ dX12_line_127
          · refine lv_tableOut (pc := 45) (tgt := 128) hx hb dX12_line_45 (tab_out5 c8 c10 c12 c14 c16) rfl ?_
            refine lv_aload_n (pc := 128) hx hb dX12_line_128 rfl (lv_at hl 1 rfl) ?_
            refine r_get X hW 6 ciX12 16 rfl (by decide) m_1247 rfl (sv_ne (k := 0) (by decide) h16_) dX12_line_129 ?_
            refine lv_iload (pc := 132) hx hb dX12_line_132 (lv_at hl 0 rfl) ?_
            refine r_iald X hW 4 rfl (vp_in_nI (by omega) (by decide)) dX12_line_134 ?_
            refine lv_topi (fun v21 ev21 => ?_)
            obtain rfl : v21 = rW (12 * (tN x) + tN y) := ev21.trans (by rw [nI_clamp (by omega)])
            have hF : F_X12_line1 rA rB rF rT rW rO x y z = rW (12 * (tN x) + tN y) := show F_X12_line1 rA rB rF rT rW rO x y z = rW (12 * (tN x) + tN y) from by rw [F_X12_line1, if_neg c8, if_neg c10, if_neg c12, if_neg c14, if_neg c16]
            exact e_i (u := [(h0, .inr (12, (vs.set 0 (.int 0)))), (b7, .inl (g.2.1 1, 11, .inl rL)), (b12, .inl (g.2.1 1, 132, .inl rA)), (b13, .inl (g.2.1 1, 132, .inl rB)), (b14, .inl (g.2.1 1, 132, .inl rF)), (b15, .inl (g.2.1 1, 132, .inl rT)), (b16, .inl (g.2.1 1, 132, .inl rW)), (b17, .inl (g.2.1 3, 132, .inl rO))]) X hQ hr (hW) [6, 7, 0, 1, 2, 3, 4, 5] rfl rfl (⟨hF.symm, rfl⟩) ⟨Nat.le_of_ble_eq_true rfl, Nat.le_of_ble_eq_true rfl⟩ dX12_line_135

def F_X12_line0 (nv : Nat) (rL : Nat → Int32) (x : Int32) (y : Int32) (z : Int32) : Int32 := if F_X12_isLine nv rL x y = 0 then ((0 : Int32)) else (if F_X12_isIn z (0 : Int32) (5 : Int32) = 0 then ((0 : Int32)) else ((0 : Int32)))
set_option maxHeartbeats 4000000 in
set_option maxRecDepth 100000 in
theorem K_X12_line0 (l : Launch) (g : GG) (h0 : Nat) (vs : List Value) (nv : Nat) (b7 : Nat) (rL : Nat → Int32) (x : Int32) (y : Int32) (z : Int32) (hlen : vs.length = 64) (h18_ : vs[18]? = some (.int (nI nv))) (h7_ : vs[7]? = some (.ref b7)) (hn : nv ≤ 10) (hbad : F_X12_isLine nv rL x y = 0 ∨ F_X12_isIn z 0 5 = 0) : MetI l g yX12_line cX12_line 5 (some .int) 2 0 0 [.ref h0, .int x, .int y, .int z] [(h0, .inr (12, vs)), (b7, .inl (g.2.1 1, 11, .inl rL))] (fun r u => r = (F_X12_line0 nv rL x y z) ∧ u = [(h0, .inr (12, (vs.set 0 (.int 1)))), (b7, .inl (g.2.1 1, 11, .inl rL))]) := by
  refine MetI.of (own := RX12) rfl (by decide) (Nat.le_of_ble_eq_true rfl) ?_
  intro p e s m below meth c A ls args Q hQ X hr hin hW hl
  have hx := X.1
  have hb := X.2.1
  have hl : lv_has ls 5 [(0, .ref h0), (1, .int x), (2, .int y), (3, .int z)] := hl
  refine lv_aload_n (pc := 0) hx hb dX12_line_0 rfl (lv_at hl 0 rfl) ?_
  refine lv_aload_n (pc := 1) hx hb dX12_line_1 rfl (lv_at hl 0 rfl) ?_
  refine lv_iload_n (pc := 2) hx hb dX12_line_2 rfl (lv_at hl 1 rfl) ?_
  refine lv_iload_n (pc := 3) hx hb dX12_line_3 rfl (lv_at hl 2 rfl) ?_
  refine c_Vi (pc := 4) (As := [.int x, .int y]) (rest := [.ref h0]) (wr := []) X hW 0 ciX12 rfl (K_X12_isLine l g h0 vs nv b7 rL x y hlen h18_ h7_ (by omega)) vX12_224 [0, 1] [] rfl rfl rfl rfl rfl rfl hl.1 rfl (Nat.le_of_ble_eq_true rfl) ⟨Nat.le_of_ble_eq_true rfl, Nat.le_of_ble_eq_true rfl⟩ ⟨Nat.le_of_ble_eq_true rfl, Nat.le_of_ble_eq_true rfl⟩ dX12_line_4 (fun r1 u9 H locs hq hW => ?_)
  obtain ⟨rfl, rfl⟩ := hq
  have hW : WD g A s _ _ [(h0, .inr (12, vs)), (b7, .inl (g.2.1 1, 11, .inl rL))] := hW
  refine lv_if_eq (tgt := 23) (pc := 7) hx hb dX12_line_7 rfl (fun c2 => ?_) (fun c2 => ?_)
  · refine lv_iconst (v := 1) (pc := 23) hx hb dX12_line_23 (by decide) ?_
    refine r_put (ws' := [(h0, .inr (12, (vs.set 0 (.int 1)))), (b7, .inl (g.2.1 1, 11, .inl rL))]) X hW 0 ciX12 0 rfl (by decide) m_1231 rfl rfl rfl rfl (sv_lt (by decide) hlen) rfl dX12_line_24 (fun H locs hW => ?_)
    refine lv_aload_n (pc := 27) hx hb dX12_line_27 rfl (lv_at hl 0 rfl) ?_
    refine r_get X hW 0 ciX12 0 rfl (by decide) m_1231 rfl (sv_eq (k := 0) (n := 64) (by decide) hlen) dX12_line_28 ?_
    refine lv_if_le (tgt := 36) (pc := 31) hx hb dX12_line_31 rfl (fun c4 => absurd c4 (by decide)) (fun c4 => ?_)
    refine lv_iconst (v := 0) (pc := 34) hx hb dX12_line_34 (by decide) ?_
    have hF : F_X12_line0 nv rL x y z = (0 : Int32) := show F_X12_line0 nv rL x y z = (0 : Int32) from by rw [F_X12_line0, if_pos c2]
    exact e_i (u := [(h0, .inr (12, (vs.set 0 (.int 1)))), (b7, .inl (g.2.1 1, 11, .inl rL))]) X hQ hr (hW) [0, 1] rfl rfl (⟨hF.symm, rfl⟩) ⟨Nat.le_of_ble_eq_true rfl, Nat.le_of_ble_eq_true rfl⟩ dX12_line_35
  · have q7 := c2
    refine lv_iload_n (pc := 10) hx hb dX12_line_10 rfl (lv_at hl 3 rfl) ?_
    refine lv_iconst (v := 0) (pc := 11) hx hb dX12_line_11 (by decide) ?_
    refine lv_iconst (v := 5) (pc := 12) hx hb dX12_line_12 (by decide) ?_
    refine c_Si (pc := 13) (As := [.int z, .int 0, .int 5]) (rest := [.ref h0]) (wr := [(h0, .inr (12, vs)), (b7, .inl (g.2.1 1, 11, .inl rL))]) X hW (K_X12_isIn l g z (0 : Int32) (5 : Int32)) vX12_198 [] [0, 1] rfl rfl rfl rfl rfl rfl hl.1 rfl (Nat.le_of_ble_eq_true rfl) ⟨Nat.le_of_ble_eq_true rfl, Nat.le_of_ble_eq_true rfl⟩ ⟨Nat.le_of_ble_eq_true rfl, Nat.le_of_ble_eq_true rfl⟩ dX12_line_13 (fun r6 u9 H locs hq hW => ?_)
    obtain ⟨rfl, rfl⟩ := hq
    have hW : WD g A s _ _ [(h0, .inr (12, vs)), (b7, .inl (g.2.1 1, 11, .inl rL))] := hW
    refine lv_if_eq (tgt := 23) (pc := 16) hx hb dX12_line_16 rfl (fun c7 => ?_) (fun c7 => ?_)
    · refine lv_iconst (v := 1) (pc := 23) hx hb dX12_line_23 (by decide) ?_
      refine r_put (ws' := [(h0, .inr (12, (vs.set 0 (.int 1)))), (b7, .inl (g.2.1 1, 11, .inl rL))]) X hW 0 ciX12 0 rfl (by decide) m_1231 rfl rfl rfl rfl (sv_lt (by decide) hlen) rfl dX12_line_24 (fun H locs hW => ?_)
      refine lv_aload_n (pc := 27) hx hb dX12_line_27 rfl (lv_at hl 0 rfl) ?_
      refine r_get X hW 0 ciX12 0 rfl (by decide) m_1231 rfl (sv_eq (k := 0) (n := 64) (by decide) hlen) dX12_line_28 ?_
      refine lv_if_le (tgt := 36) (pc := 31) hx hb dX12_line_31 rfl (fun c9 => absurd c9 (by decide)) (fun c9 => ?_)
      refine lv_iconst (v := 0) (pc := 34) hx hb dX12_line_34 (by decide) ?_
      have hF : F_X12_line0 nv rL x y z = (0 : Int32) := show F_X12_line0 nv rL x y z = (0 : Int32) from by rw [F_X12_line0, if_neg c2, if_pos c7]
      exact e_i (u := [(h0, .inr (12, (vs.set 0 (.int 1)))), (b7, .inl (g.2.1 1, 11, .inl rL))]) X hQ hr (hW) [0, 1] rfl rfl (⟨hF.symm, rfl⟩) ⟨Nat.le_of_ble_eq_true rfl, Nat.le_of_ble_eq_true rfl⟩ dX12_line_35
    · exact False.elim (hbad.elim q7 c7)

def F_X12_thrown (tw : Int32) : Int32 := tw
set_option maxHeartbeats 4000000 in
set_option maxRecDepth 100000 in
theorem K_X12_thrown (l : Launch) (g : GG) (h0 : Nat) (vs : List Value) (tw : Int32) (hlen : vs.length = 64) (h0_ : vs[0]? = some (.int tw)) : MetI l g yX12_thrown cX12_thrown 1 (some .int) 0 0 0 [.ref h0] [(h0, .inr (12, vs))] (fun r u => r = (F_X12_thrown tw) ∧ u = [(h0, .inr (12, vs))]) := by
  refine MetI.of (own := RX12) rfl (by decide) (Nat.le_of_ble_eq_true rfl) ?_
  intro p e s m below meth c A ls args Q hQ X hr hin hW hl
  have hx := X.1
  have hb := X.2.1
  have hl : lv_has ls 1 [(0, .ref h0)] := hl
  refine lv_aload_n (pc := 0) hx hb dX12_thrown_0 rfl (lv_at hl 0 rfl) ?_
  refine r_get X hW 0 ciX12 0 rfl (by decide) m_1231 rfl h0_ dX12_thrown_1 ?_
  have hF : F_X12_thrown tw = tw := show F_X12_thrown tw = tw from rfl
  exact e_i (u := [(h0, .inr (12, vs))]) X hQ hr (hW) [0] rfl rfl (⟨hF.symm, rfl⟩) ⟨Nat.le_of_ble_eq_true rfl, Nat.le_of_ble_eq_true rfl⟩ dX12_thrown_4

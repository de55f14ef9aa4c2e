theorem dX7_prepare_0 : decode cX7_prepare 0 = .ok (.aload_n 0, 1) := DX7_prepare _ _ _ rfl
theorem dX7_prepare_1 : decode cX7_prepare 1 = .ok (.aload_n 1, 1) := DX7_prepare _ _ _ rfl
theorem dX7_prepare_2 : decode cX7_prepare 2 = .ok (.getfield 51, 3) := DX7_prepare _ _ _ rfl
theorem dX7_prepare_5 : decode cX7_prepare 5 = .ok (.putfield 57, 3) := DX7_prepare _ _ _ rfl
theorem dX7_prepare_8 : decode cX7_prepare 8 = .ok (.aload_n 0, 1) := DX7_prepare _ _ _ rfl
theorem dX7_prepare_9 : decode cX7_prepare 9 = .ok (.aload_n 1, 1) := DX7_prepare _ _ _ rfl
theorem dX7_prepare_10 : decode cX7_prepare 10 = .ok (.getfield 58, 3) := DX7_prepare _ _ _ rfl
theorem dX7_prepare_13 : decode cX7_prepare 13 = .ok (.putfield 61, 3) := DX7_prepare _ _ _ rfl
theorem dX7_prepare_16 : decode cX7_prepare 16 = .ok (.aload_n 0, 1) := DX7_prepare _ _ _ rfl
theorem dX7_prepare_17 : decode cX7_prepare 17 = .ok (.aload_n 1, 1) := DX7_prepare _ _ _ rfl
theorem dX7_prepare_18 : decode cX7_prepare 18 = .ok (.invokevirtual 62, 3) := DX7_prepare _ _ _ rfl
theorem dX7_prepare_21 : decode cX7_prepare 21 = .ok (.aload_n 1, 1) := DX7_prepare _ _ _ rfl
theorem dX7_prepare_22 : decode cX7_prepare 22 = .ok (.getfield 66, 3) := DX7_prepare _ _ _ rfl
theorem dX7_prepare_25 : decode cX7_prepare 25 = .ok (.iload_n 2, 1) := DX7_prepare _ _ _ rfl
theorem dX7_prepare_26 : decode cX7_prepare 26 = .ok (.iaload, 1) := DX7_prepare _ _ _ rfl
theorem dX7_prepare_27 : decode cX7_prepare 27 = .ok (.iconst (-1), 1) := DX7_prepare _ _ _ rfl
theorem dX7_prepare_28 : decode cX7_prepare 28 = .ok (.ixor, 1) := DX7_prepare _ _ _ rfl
theorem dX7_prepare_29 : decode cX7_prepare 29 = .ok (.iand, 1) := DX7_prepare _ _ _ rfl
theorem dX7_prepare_30 : decode cX7_prepare 30 = .ok (.putfield 69, 3) := DX7_prepare _ _ _ rfl
theorem dX7_prepare_33 : decode cX7_prepare 33 = .ok (.aload_n 0, 1) := DX7_prepare _ _ _ rfl
theorem dX7_prepare_34 : decode cX7_prepare 34 = .ok (.aload_n 1, 1) := DX7_prepare _ _ _ rfl
theorem dX7_prepare_35 : decode cX7_prepare 35 = .ok (.getfield 72, 3) := DX7_prepare _ _ _ rfl
theorem dX7_prepare_38 : decode cX7_prepare 38 = .ok (.iload_n 2, 1) := DX7_prepare _ _ _ rfl
theorem dX7_prepare_39 : decode cX7_prepare 39 = .ok (.iaload, 1) := DX7_prepare _ _ _ rfl
theorem dX7_prepare_40 : decode cX7_prepare 40 = .ok (.putfield 75, 3) := DX7_prepare _ _ _ rfl
theorem dX7_prepare_43 : decode cX7_prepare 43 = .ok (.iconst 1, 1) := DX7_prepare _ _ _ rfl
theorem dX7_prepare_44 : decode cX7_prepare 44 = .ok (.istore_n 3, 1) := DX7_prepare _ _ _ rfl
theorem dX7_prepare_45 : decode cX7_prepare 45 = .ok (.iload_n 3, 1) := DX7_prepare _ _ _ rfl
theorem dX7_prepare_46 : decode cX7_prepare 46 = .ok (.bipush 24, 2) := DX7_prepare _ _ _ rfl
theorem dX7_prepare_48 : decode cX7_prepare 48 = .ok (.if_icmp .gt 71, 3) := DX7_prepare _ _ _ rfl
theorem dX7_prepare_119 : decode cX7_prepare 119 = .ok (.return_, 1) := DX7_prepare _ _ _ rfl
theorem dX7_prepare_51 : decode cX7_prepare 51 = .ok (.iconst 0, 1) := DX7_prepare _ _ _ rfl
theorem dX7_prepare_52 : decode cX7_prepare 52 = .ok (.istore 4, 2) := DX7_prepare _ _ _ rfl
theorem dX7_prepare_54 : decode cX7_prepare 54 = .ok (.iload 4, 2) := DX7_prepare _ _ _ rfl
theorem dX7_prepare_56 : decode cX7_prepare 56 = .ok (.aload_n 0, 1) := DX7_prepare _ _ _ rfl
theorem dX7_prepare_57 : decode cX7_prepare 57 = .ok (.getfield 57, 3) := DX7_prepare _ _ _ rfl
theorem dX7_prepare_60 : decode cX7_prepare 60 = .ok (.if_icmp .ge 53, 3) := DX7_prepare _ _ _ rfl
theorem dX7_prepare_113 : decode cX7_prepare 113 = .ok (.iinc 3 1, 3) := DX7_prepare _ _ _ rfl
theorem dX7_prepare_116 : decode cX7_prepare 116 = .ok (.goto (-71), 3) := DX7_prepare _ _ _ rfl
theorem dX7_prepare_63 : decode cX7_prepare 63 = .ok (.aload_n 0, 1) := DX7_prepare _ _ _ rfl
theorem dX7_prepare_64 : decode cX7_prepare 64 = .ok (.getfield 69, 3) := DX7_prepare _ _ _ rfl
theorem dX7_prepare_67 : decode cX7_prepare 67 = .ok (.iload 4, 2) := DX7_prepare _ _ _ rfl
theorem dX7_prepare_69 : decode cX7_prepare 69 = .ok (.invokestatic 77, 3) := DX7_prepare _ _ _ rfl
theorem dX7_prepare_72 : decode cX7_prepare 72 = .ok (.ifCond .eq 18, 3) := DX7_prepare _ _ _ rfl
theorem dX7_prepare_90 : decode cX7_prepare 90 = .ok (.iconst 0, 1) := DX7_prepare _ _ _ rfl
theorem dX7_prepare_91 : decode cX7_prepare 91 = .ok (.istore 5, 2) := DX7_prepare _ _ _ rfl
theorem dX7_prepare_93 : decode cX7_prepare 93 = .ok (.aload_n 0, 1) := DX7_prepare _ _ _ rfl
theorem dX7_prepare_94 : decode cX7_prepare 94 = .ok (.getfield 18, 3) := DX7_prepare _ _ _ rfl
theorem dX7_prepare_97 : decode cX7_prepare 97 = .ok (.iload_n 3, 1) := DX7_prepare _ _ _ rfl
theorem dX7_prepare_98 : decode cX7_prepare 98 = .ok (.bipush 7, 2) := DX7_prepare _ _ _ rfl
theorem dX7_prepare_100 : decode cX7_prepare 100 = .ok (.imul, 1) := DX7_prepare _ _ _ rfl
theorem dX7_prepare_101 : decode cX7_prepare 101 = .ok (.iload 4, 2) := DX7_prepare _ _ _ rfl
theorem dX7_prepare_103 : decode cX7_prepare 103 = .ok (.iadd, 1) := DX7_prepare _ _ _ rfl
theorem dX7_prepare_104 : decode cX7_prepare 104 = .ok (.iload 5, 2) := DX7_prepare _ _ _ rfl
theorem dX7_prepare_106 : decode cX7_prepare 106 = .ok (.iastore, 1) := DX7_prepare _ _ _ rfl
theorem dX7_prepare_107 : decode cX7_prepare 107 = .ok (.iinc 4 1, 3) := DX7_prepare _ _ _ rfl
theorem dX7_prepare_110 : decode cX7_prepare 110 = .ok (.goto (-56), 3) := DX7_prepare _ _ _ rfl
theorem dX7_prepare_75 : decode cX7_prepare 75 = .ok (.aload_n 1, 1) := DX7_prepare _ _ _ rfl
theorem dX7_prepare_76 : decode cX7_prepare 76 = .ok (.iload 4, 2) := DX7_prepare _ _ _ rfl
theorem dX7_prepare_78 : decode cX7_prepare 78 = .ok (.iload_n 3, 1) := DX7_prepare _ _ _ rfl
theorem dX7_prepare_79 : decode cX7_prepare 79 = .ok (.invokevirtual 81, 3) := DX7_prepare _ _ _ rfl
theorem dX7_prepare_82 : decode cX7_prepare 82 = .ok (.aload_n 0, 1) := DX7_prepare _ _ _ rfl
theorem dX7_prepare_83 : decode cX7_prepare 83 = .ok (.getfield 69, 3) := DX7_prepare _ _ _ rfl
theorem dX7_prepare_86 : decode cX7_prepare 86 = .ok (.iand, 1) := DX7_prepare _ _ _ rfl
theorem dX7_prepare_87 : decode cX7_prepare 87 = .ok (.goto 4, 3) := DX7_prepare _ _ _ rfl
theorem dX7_comeToAfter_0 : decode cX7_comeToAfter 0 = .ok (.iload_n 1, 1) := DX7_comeToAfter _ _ _ rfl
theorem dX7_comeToAfter_1 : decode cX7_comeToAfter 1 = .ok (.istore_n 3, 1) := DX7_comeToAfter _ _ _ rfl
theorem dX7_comeToAfter_2 : decode cX7_comeToAfter 2 = .ok (.iconst 0, 1) := DX7_comeToAfter _ _ _ rfl
theorem dX7_comeToAfter_3 : decode cX7_comeToAfter 3 = .ok (.istore 4, 2) := DX7_comeToAfter _ _ _ rfl
theorem dX7_comeToAfter_5 : decode cX7_comeToAfter 5 = .ok (.iload 4, 2) := DX7_comeToAfter _ _ _ rfl
theorem dX7_comeToAfter_7 : decode cX7_comeToAfter 7 = .ok (.aload_n 0, 1) := DX7_comeToAfter _ _ _ rfl
theorem dX7_comeToAfter_8 : decode cX7_comeToAfter 8 = .ok (.getfield 57, 3) := DX7_comeToAfter _ _ _ rfl
theorem dX7_comeToAfter_11 : decode cX7_comeToAfter 11 = .ok (.if_icmp .ge 33, 3) := DX7_comeToAfter _ _ _ rfl
theorem dX7_comeToAfter_44 : decode cX7_comeToAfter 44 = .ok (.iload_n 3, 1) := DX7_comeToAfter _ _ _ rfl
theorem dX7_comeToAfter_45 : decode cX7_comeToAfter 45 = .ok (.ireturn, 1) := DX7_comeToAfter _ _ _ rfl
theorem dX7_comeToAfter_14 : decode cX7_comeToAfter 14 = .ok (.iload_n 1, 1) := DX7_comeToAfter _ _ _ rfl
theorem dX7_comeToAfter_15 : decode cX7_comeToAfter 15 = .ok (.iload 4, 2) := DX7_comeToAfter _ _ _ rfl
theorem dX7_comeToAfter_17 : decode cX7_comeToAfter 17 = .ok (.invokestatic 77, 3) := DX7_comeToAfter _ _ _ rfl
theorem dX7_comeToAfter_20 : decode cX7_comeToAfter 20 = .ok (.ifCond .eq 18, 3) := DX7_comeToAfter _ _ _ rfl
theorem dX7_comeToAfter_38 : decode cX7_comeToAfter 38 = .ok (.iinc 4 1, 3) := DX7_comeToAfter _ _ _ rfl
theorem dX7_comeToAfter_41 : decode cX7_comeToAfter 41 = .ok (.goto (-36), 3) := DX7_comeToAfter _ _ _ rfl
theorem dX7_comeToAfter_23 : decode cX7_comeToAfter 23 = .ok (.iload_n 3, 1) := DX7_comeToAfter _ _ _ rfl
theorem dX7_comeToAfter_24 : decode cX7_comeToAfter 24 = .ok (.aload_n 0, 1) := DX7_comeToAfter _ _ _ rfl
theorem dX7_comeToAfter_25 : decode cX7_comeToAfter 25 = .ok (.getfield 18, 3) := DX7_comeToAfter _ _ _ rfl
theorem dX7_comeToAfter_28 : decode cX7_comeToAfter 28 = .ok (.iload_n 2, 1) := DX7_comeToAfter _ _ _ rfl
theorem dX7_comeToAfter_29 : decode cX7_comeToAfter 29 = .ok (.bipush 7, 2) := DX7_comeToAfter _ _ _ rfl
theorem dX7_comeToAfter_31 : decode cX7_comeToAfter 31 = .ok (.imul, 1) := DX7_comeToAfter _ _ _ rfl
theorem dX7_comeToAfter_32 : decode cX7_comeToAfter 32 = .ok (.iload 4, 2) := DX7_comeToAfter _ _ _ rfl
theorem dX7_comeToAfter_34 : decode cX7_comeToAfter 34 = .ok (.iadd, 1) := DX7_comeToAfter _ _ _ rfl
theorem dX7_comeToAfter_35 : decode cX7_comeToAfter 35 = .ok (.iaload, 1) := DX7_comeToAfter _ _ _ rfl
theorem dX7_comeToAfter_36 : decode cX7_comeToAfter 36 = .ok (.ior, 1) := DX7_comeToAfter _ _ _ rfl
theorem dX7_comeToAfter_37 : decode cX7_comeToAfter 37 = .ok (.istore_n 3, 1) := DX7_comeToAfter _ _ _ rfl
theorem dX12_isAsked_13 : decode cX12_isAsked 13 = .ok (.iload_n 2, 1) := DX12_isAsked _ _ _ rfl
theorem dX12_isAsked_14 : decode cX12_isAsked 14 = .ok (.invokestatic 308, 3) := DX12_isAsked _ _ _ rfl
theorem dX12_isAsked_17 : decode cX12_isAsked 17 = .ok (.ifCond .eq 7, 3) := DX12_isAsked _ _ _ rfl
theorem dX12_isAsked_20 : decode cX12_isAsked 20 = .ok (.iconst 1, 1) := DX12_isAsked _ _ _ rfl
theorem dX12_isAsked_21 : decode cX12_isAsked 21 = .ok (.goto 4, 3) := DX12_isAsked _ _ _ rfl
def L2_X7_prepares (pe : Nat) (mn : Nat → Int32) (K : Nat → Int32) (nw : Nat) (j1 : Nat) (j2 : Nat) (fzc_2 : Nat → Int32) : (Nat → Int32) := if hasv ((evy (nI pe)) &&& ((mn nw) ^^^ (-1 : Int32))) (nI j2) = 0 then ((upd fzc_2 ((j1 + 1) * 7 + j2) (0 : Int32))) else ((upd fzc_2 ((j1 + 1) * 7 + j2) ((F_X10_callable K j2 (j1 + 1)) &&& ((evy (nI pe)) &&& ((mn nw) ^^^ (-1 : Int32))))))
def L2_X7_prepare (pe : Nat) (mn : Nat → Int32) (K : Nat → Int32) (nw : Nat) (j1 : Nat) (i0_ : Nat → Int32) : Nat → (Nat → Int32)
  | 0 => (i0_)
  | k_ + 1 => L2_X7_prepares pe mn K nw j1 k_ (L2_X7_prepare pe mn K nw j1 i0_ k_)
def L1_X7_prepares (pe : Nat) (mn : Nat → Int32) (K : Nat → Int32) (nw : Nat) (j1 : Nat) (fzc_1 : Nat → Int32) : (Nat → Int32) := (L2_X7_prepare pe mn K nw j1 fzc_1 pe)
def L1_X7_prepare (pe : Nat) (mn : Nat → Int32) (K : Nat → Int32) (nw : Nat) (i0_ : Nat → Int32) : Nat → (Nat → Int32)
  | 0 => (i0_)
  | k_ + 1 => L1_X7_prepares pe mn K nw k_ (L1_X7_prepare pe mn K nw i0_ k_)
def F_X7_prepare (cA : Nat → Int32) (pe : Nat) (de : Int32) (mu : Nat → Int32) (mn : Nat → Int32) (K : Nat → Int32) (nw : Nat) : Int32 × Int32 × Int32 × (Nat → Int32) := (de, (evy (nI pe)) &&& ((mn nw) ^^^ (-1 : Int32)), mu nw, (L1_X7_prepare pe mn K nw cA 24))
set_option maxHeartbeats 4000000 in
set_option maxRecDepth 100000 in
theorem K_X7_prepare (l : Launch) (g : GG) (z0 : Nat) (zr : Nat) (zc : Nat) (ze1 : Nat) (ze2 : Nat) (ze3 : Nat) (ze4 : Nat) (ze5 : Nat) (ze6 : Nat) (zp : Int32) (zd : Int32) (zt : Int32) (zm : Int32) (zi0 : Int32) (zi1 : Int32) (zi2 : Int32) (zi3 : Int32) (zi4 : Int32) (cA : Nat → Int32) (v : Nat) (v3 : Nat) (v4 : Nat) (v5 : Nat) (v6 : Nat) (v7 : Nat) (v8 : Nat) (v9 : Nat) (v10 : Nat) (v11 : Nat) (v12 : Nat) (v13 : Nat) (v15 : Nat) (pe : Nat) (lc : Int32) (de : Int32) (gl : Int32) (mu : Nat → Int32) (mn : Nat → Int32) (K : Nat → Int32) (nw : Nat) (hpe : pe ≤ 7) (hnw : nw < 4) : MetV l g yX7_prepare cX7_prepare 6 none 1 0 0 [.ref z0, .ref v, .int (nI nw)] [(z0, .inr (7, [.ref zr, .int zp, .int zd, .int zt, .int zm, .ref zc, .ref ze1, .ref ze2, .ref ze3, .ref ze4, .ref ze5, .ref ze6, .int zi0, .int zi1, .int zi2, .int zi3, .int zi4])), (zc, .inl (g.2.1 1, 175, .inl cA)), (v, .inr (10, [.int (nI pe), .int lc, .int de, .ref v3, .ref v4, .ref v5, .ref v6, .ref v7, .ref v8, .ref v9, .ref v10, .ref v11, .ref v12, .ref v13, .int gl, .ref v15])), (v4, .inl (g.2.1 1, 4, .inl mu)), (v5, .inl (g.2.1 1, 4, .inl mn)), (v10, .inl (g.2.1 1, 175, .inl K))] (fun u => u = [(z0, .inr (7, [.ref zr, .int (nI pe), .int ((F_X7_prepare cA pe de mu mn K nw).1), .int ((F_X7_prepare cA pe de mu mn K nw).2.1), .int ((F_X7_prepare cA pe de mu mn K nw).2.2.1), .ref zc, .ref ze1, .ref ze2, .ref ze3, .ref ze4, .ref ze5, .ref ze6, .int zi0, .int zi1, .int zi2, .int zi3, .int zi4])), (zc, .inl (g.2.1 1, 175, .inl ((F_X7_prepare cA pe de mu mn K nw).2.2.2))), (v, .inr (10, [.int (nI pe), .int lc, .int de, .ref v3, .ref v4, .ref v5, .ref v6, .ref v7, .ref v8, .ref v9, .ref v10, .ref v11, .ref v12, .ref v13, .int gl, .ref v15])), (v4, .inl (g.2.1 1, 4, .inl mu)), (v5, .inl (g.2.1 1, 4, .inl mn)), (v10, .inl (g.2.1 1, 175, .inl K))]) := by
  refine MetV.of (own := RX7) rfl (by decide) (Nat.le_of_ble_eq_true rfl) ?_
  intro p e s m below meth c A ls args Q hQ X hr hin hW hl
  have hx := X.1
  have hb := X.2.1
  have hl : lv_has ls 6 [(0, .ref z0), (1, .ref v), (2, .int (nI nw))] := hl
  refine lv_aload_n (pc := 0) hx hb dX7_prepare_0 rfl (lv_at hl 0 rfl) ?_
  refine lv_aload_n (pc := 1) hx hb dX7_prepare_1 rfl (lv_at hl 1 rfl) ?_
  refine r_getN X hW 2 ciX10 0 rfl (by decide) m_275 rfl rfl dX7_prepare_2 ?_
  refine r_put (ws' := [(z0, .inr (7, [.ref zr, .int (nI pe), .int zd, .int zt, .int zm, .ref zc, .ref ze1, .ref ze2, .ref ze3, .ref ze4, .ref ze5, .ref ze6, .int zi0, .int zi1, .int zi2, .int zi3, .int zi4])), (zc, .inl (g.2.1 1, 175, .inl cA)), (v, .inr (10, [.int (nI pe), .int lc, .int de, .ref v3, .ref v4, .ref v5, .ref v6, .ref v7, .ref v8, .ref v9, .ref v10, .ref v11, .ref v12, .ref v13, .int gl, .ref v15])), (v4, .inl (g.2.1 1, 4, .inl mu)), (v5, .inl (g.2.1 1, 4, .inl mn)), (v10, .inl (g.2.1 1, 175, .inl K))]) X hW 0 ciX7 1 rfl (by decide) m_114 rfl rfl rfl rfl (Nat.le_of_ble_eq_true rfl) rfl dX7_prepare_5 (fun H locs hW => ?_)
  refine lv_aload_n (pc := 8) hx hb dX7_prepare_8 rfl (lv_at hl 0 rfl) ?_
  refine lv_aload_n (pc := 9) hx hb dX7_prepare_9 rfl (lv_at hl 1 rfl) ?_
  refine r_getN X hW 2 ciX10 2 rfl (by decide) m_288 rfl rfl dX7_prepare_10 ?_
  refine r_put (ws' := [(z0, .inr (7, [.ref zr, .int (nI pe), .int de, .int zt, .int zm, .ref zc, .ref ze1, .ref ze2, .ref ze3, .ref ze4, .ref ze5, .ref ze6, .int zi0, .int zi1, .int zi2, .int zi3, .int zi4])), (zc, .inl (g.2.1 1, 175, .inl cA)), (v, .inr (10, [.int (nI pe), .int lc, .int de, .ref v3, .ref v4, .ref v5, .ref v6, .ref v7, .ref v8, .ref v9, .ref v10, .ref v11, .ref v12, .ref v13, .int gl, .ref v15])), (v4, .inl (g.2.1 1, 4, .inl mu)), (v5, .inl (g.2.1 1, 4, .inl mn)), (v10, .inl (g.2.1 1, 175, .inl K))]) X hW 0 ciX7 2 rfl (by decide) m_115 rfl rfl rfl rfl (Nat.le_of_ble_eq_true rfl) rfl dX7_prepare_13 (fun H locs hW => ?_)
  refine lv_aload_n (pc := 16) hx hb dX7_prepare_16 rfl (lv_at hl 0 rfl) ?_
  refine lv_aload_n (pc := 17) hx hb dX7_prepare_17 rfl (lv_at hl 1 rfl) ?_
  refine c_Vi (pc := 18) (As := []) (rest := [.ref z0]) (wr := [(z0, .inr (7, [.ref zr, .int (nI pe), .int de, .int zt, .int zm, .ref zc, .ref ze1, .ref ze2, .ref ze3, .ref ze4, .ref ze5, .ref ze6, .int zi0, .int zi1, .int zi2, .int zi3, .int zi4])), (zc, .inl (g.2.1 1, 175, .inl cA)), (v4, .inl (g.2.1 1, 4, .inl mu)), (v5, .inl (g.2.1 1, 4, .inl mn)), (v10, .inl (g.2.1 1, 175, .inl K))]) X hW 2 ciX10 rfl (C_X10_everyoneG l g v v3 v4 v5 v6 v7 v8 v9 v10 v11 v12 v13 v15 (nI pe) lc de gl) vX7_62 [2] [0, 1, 3, 4, 5] rfl rfl rfl rfl rfl rfl hl.1 rfl (Nat.le_of_ble_eq_true rfl) ⟨Nat.le_of_ble_eq_true rfl, Nat.le_of_ble_eq_true rfl⟩ ⟨Nat.le_of_ble_eq_true rfl, Nat.le_of_ble_eq_true rfl⟩ dX7_prepare_18 (fun r1 u9 H locs hq hW => ?_)
  obtain ⟨rfl, rfl⟩ := hq
  have hW : WD g A s _ _ [(z0, .inr (7, [.ref zr, .int (nI pe), .int de, .int zt, .int zm, .ref zc, .ref ze1, .ref ze2, .ref ze3, .ref ze4, .ref ze5, .ref ze6, .int zi0, .int zi1, .int zi2, .int zi3, .int zi4])), (zc, .inl (g.2.1 1, 175, .inl cA)), (v4, .inl (g.2.1 1, 4, .inl mu)), (v5, .inl (g.2.1 1, 4, .inl mn)), (v10, .inl (g.2.1 1, 175, .inl K)), (v, .inr (10, [.int (nI pe), .int lc, .int de, .ref v3, .ref v4, .ref v5, .ref v6, .ref v7, .ref v8, .ref v9, .ref v10, .ref v11, .ref v12, .ref v13, .int gl, .ref v15]))] := hW
  refine lv_aload_n (pc := 21) hx hb dX7_prepare_21 rfl (lv_at hl 1 rfl) ?_
  refine r_getN X hW 5 ciX10 5 rfl (by decide) m_301 rfl rfl dX7_prepare_22 ?_
  refine lv_iload_n (pc := 25) hx hb dX7_prepare_25 rfl (lv_at hl 2 rfl) ?_
  refine r_iald X hW 3 rfl (vp_in_nI (by omega) (by decide)) dX7_prepare_26 ?_
  refine lv_topi (fun v2 ev2 => ?_)
  obtain rfl : v2 = mn nw := ev2.trans (by rw [nI_clamp (by omega)])
  refine lv_iconst (v := (-1)) (pc := 27) hx hb dX7_prepare_27 (by decide) ?_
  refine lv_ixor (pc := 28) hx hb dX7_prepare_28 ?_
  refine lv_iand (pc := 29) hx hb dX7_prepare_29 ?_
  refine r_put (ws' := [(z0, .inr (7, [.ref zr, .int (nI pe), .int de, .int ((evy (nI pe)) &&& ((mn nw) ^^^ (-1 : Int32))), .int zm, .ref zc, .ref ze1, .ref ze2, .ref ze3, .ref ze4, .ref ze5, .ref ze6, .int zi0, .int zi1, .int zi2, .int zi3, .int zi4])), (zc, .inl (g.2.1 1, 175, .inl cA)), (v4, .inl (g.2.1 1, 4, .inl mu)), (v5, .inl (g.2.1 1, 4, .inl mn)), (v10, .inl (g.2.1 1, 175, .inl K)), (v, .inr (10, [.int (nI pe), .int lc, .int de, .ref v3, .ref v4, .ref v5, .ref v6, .ref v7, .ref v8, .ref v9, .ref v10, .ref v11, .ref v12, .ref v13, .int gl, .ref v15]))]) X hW 0 ciX7 3 rfl (by decide) m_116 rfl rfl rfl rfl (Nat.le_of_ble_eq_true rfl) rfl dX7_prepare_30 (fun H locs hW => ?_)
  refine lv_aload_n (pc := 33) hx hb dX7_prepare_33 rfl (lv_at hl 0 rfl) ?_
  refine lv_aload_n (pc := 34) hx hb dX7_prepare_34 rfl (lv_at hl 1 rfl) ?_
  refine r_getN X hW 5 ciX10 4 rfl (by decide) m_297 rfl rfl dX7_prepare_35 ?_
  refine lv_iload_n (pc := 38) hx hb dX7_prepare_38 rfl (lv_at hl 2 rfl) ?_
  refine r_iald X hW 2 rfl (vp_in_nI (by omega) (by decide)) dX7_prepare_39 ?_
  refine lv_topi (fun v3 ev3 => ?_)
  obtain rfl : v3 = mu nw := ev3.trans (by rw [nI_clamp (by omega)])
  refine r_put (ws' := [(z0, .inr (7, [.ref zr, .int (nI pe), .int de, .int ((evy (nI pe)) &&& ((mn nw) ^^^ (-1 : Int32))), .int (mu nw), .ref zc, .ref ze1, .ref ze2, .ref ze3, .ref ze4, .ref ze5, .ref ze6, .int zi0, .int zi1, .int zi2, .int zi3, .int zi4])), (zc, .inl (g.2.1 1, 175, .inl cA)), (v4, .inl (g.2.1 1, 4, .inl mu)), (v5, .inl (g.2.1 1, 4, .inl mn)), (v10, .inl (g.2.1 1, 175, .inl K)), (v, .inr (10, [.int (nI pe), .int lc, .int de, .ref v3, .ref v4, .ref v5, .ref v6, .ref v7, .ref v8, .ref v9, .ref v10, .ref v11, .ref v12, .ref v13, .int gl, .ref v15]))]) X hW 0 ciX7 4 rfl (by decide) m_117 rfl rfl rfl rfl (Nat.le_of_ble_eq_true rfl) rfl dX7_prepare_40 (fun H locs hW => ?_)
  refine lv_iconst (v := 1) (pc := 43) hx hb dX7_prepare_43 (by decide) ?_
  refine lv_istore_n (lv' := [(3, .int 1), (0, .ref z0), (1, .ref v), (2, .int (nI nw))]) (pc := 44) hx hb dX7_prepare_44 rfl hl (by decide) rfl (fun ls hl => ?_)
  have loop1 : ∀ (fu1 : Nat) (j1 : Nat) (fzc_1 : Nat → Int32), (24 < fu1 + j1) → (j1 ≤ 24) → (fzc_1 = L1_X7_prepare pe mn K nw cA j1) → ∀ (H : Heap) (locs : List Loc) (ls : Array Slot), WD g A s H locs [(z0, .inr (7, [.ref zr, .int (nI pe), .int de, .int ((evy (nI pe)) &&& ((mn nw) ^^^ (-1 : Int32))), .int (mu nw), .ref zc, .ref ze1, .ref ze2, .ref ze3, .ref ze4, .ref ze5, .ref ze6, .int zi0, .int zi1, .int zi2, .int zi3, .int zi4])), (zc, .inl (g.2.1 1, 175, .inl fzc_1)), (v4, .inl (g.2.1 1, 4, .inl mu)), (v5, .inl (g.2.1 1, 4, .inl mn)), (v10, .inl (g.2.1 1, 175, .inl K)), (v, .inr (10, [.int (nI pe), .int lc, .int de, .ref v3, .ref v4, .ref v5, .ref v6, .ref v7, .ref v8, .ref v9, .ref v10, .ref v11, .ref v12, .ref v13, .int gl, .ref v15]))] → lv_has ls 6 [(3, .int (nI (j1 + 1))), (0, .ref z0), (1, .ref v), (2, .int (nI nw))] → W p l e (RM 1 0 0) s m args below meth c H locs 0 0 Q (F0 m 45 ls []) := by
    intro fu1
    induction fu1 with
    | zero =>
      intro j1 fzc_1 hm1 hj1 hst1
      exact absurd hm1 (by omega)
    | succ fu1 ih1 =>
      intro j1 fzc_1 hm1 hj1 hst1 H locs ls hW hl
      refine lv_iload_n (pc := 45) hx hb dX7_prepare_45 rfl (lv_at hl 0 rfl) ?_
      refine lv_bipush (v := 24) (pc := 46) hx hb dX7_prepare_46 (by decide) ?_
      refine lv_icmp_gt (tgt := 119) (pc := 48) hx hb dX7_prepare_48 rfl (fun c4 => ?_) (fun c4 => ?_)
      · have h5 : 24 < (j1 + 1) := (nI_ltI (a := 24) (b := (j1 + 1)) (by omega) (by omega)).mp c4
        have hN1 : j1 = 24 := by omega
        rw [hN1] at hst1
        subst hst1
        have hW : WD g A s _ _ [(z0, .inr (7, [.ref zr, .int (nI pe), .int de, .int ((evy (nI pe)) &&& ((mn nw) ^^^ (-1 : Int32))), .int (mu nw), .ref zc, .ref ze1, .ref ze2, .ref ze3, .ref ze4, .ref ze5, .ref ze6, .int zi0, .int zi1, .int zi2, .int zi3, .int zi4])), (zc, .inl (g.2.1 1, 175, .inl (L1_X7_prepare pe mn K nw cA 24))), (v4, .inl (g.2.1 1, 4, .inl mu)), (v5, .inl (g.2.1 1, 4, .inl mn)), (v10, .inl (g.2.1 1, 175, .inl K)), (v, .inr (10, [.int (nI pe), .int lc, .int de, .ref v3, .ref v4, .ref v5, .ref v6, .ref v7, .ref v8, .ref v9, .ref v10, .ref v11, .ref v12, .ref v13, .int gl, .ref v15]))] := hW
        have hF : F_X7_prepare cA pe de mu mn K nw = (de, (evy (nI pe)) &&& ((mn nw) ^^^ (-1 : Int32)), mu nw, (L1_X7_prepare pe mn K nw cA 24)) := show F_X7_prepare cA pe de mu mn K nw = (de, (evy (nI pe)) &&& ((mn nw) ^^^ (-1 : Int32)), mu nw, (L1_X7_prepare pe mn K nw cA 24)) from rfl
        exact e_v (u := [(z0, .inr (7, [.ref zr, .int (nI pe), .int de, .int ((evy (nI pe)) &&& ((mn nw) ^^^ (-1 : Int32))), .int (mu nw), .ref zc, .ref ze1, .ref ze2, .ref ze3, .ref ze4, .ref ze5, .ref ze6, .int zi0, .int zi1, .int zi2, .int zi3, .int zi4])), (zc, .inl (g.2.1 1, 175, .inl (L1_X7_prepare pe mn K nw cA 24))), (v, .inr (10, [.int (nI pe), .int lc, .int de, .ref v3, .ref v4, .ref v5, .ref v6, .ref v7, .ref v8, .ref v9, .ref v10, .ref v11, .ref v12, .ref v13, .int gl, .ref v15])), (v4, .inl (g.2.1 1, 4, .inl mu)), (v5, .inl (g.2.1 1, 4, .inl mn)), (v10, .inl (g.2.1 1, 175, .inl K))]) X hQ hr (hW) [0, 1, 5, 2, 3, 4] rfl rfl (by rw [hF]) ⟨Nat.le_of_ble_eq_true rfl, Nat.le_of_ble_eq_true rfl⟩ dX7_prepare_119
      · have h6 : ¬ (24 < (j1 + 1)) := fun q => c4 ((nI_ltI (a := 24) (b := (j1 + 1)) (by omega) (by omega)).mpr q)
        refine lv_iconst (v := 0) (pc := 51) hx hb dX7_prepare_51 (by decide) ?_
        refine lv_istore (lv' := [(4, .int 0), (3, .int (nI (j1 + 1))), (0, .ref z0), (1, .ref v), (2, .int (nI nw))]) (pc := 52) hx hb dX7_prepare_52 hl (by decide) rfl (fun ls hl => ?_)
        have loop2 : ∀ (fu2 : Nat) (j2 : Nat) (fzc_2 : Nat → Int32), (pe < fu2 + j2) → (j2 ≤ pe) → (fzc_2 = L2_X7_prepare pe mn K nw j1 fzc_1 j2) → ∀ (H : Heap) (locs : List Loc) (ls : Array Slot), WD g A s H locs [(z0, .inr (7, [.ref zr, .int (nI pe), .int de, .int ((evy (nI pe)) &&& ((mn nw) ^^^ (-1 : Int32))), .int (mu nw), .ref zc, .ref ze1, .ref ze2, .ref ze3, .ref ze4, .ref ze5, .ref ze6, .int zi0, .int zi1, .int zi2, .int zi3, .int zi4])), (zc, .inl (g.2.1 1, 175, .inl fzc_2)), (v4, .inl (g.2.1 1, 4, .inl mu)), (v5, .inl (g.2.1 1, 4, .inl mn)), (v10, .inl (g.2.1 1, 175, .inl K)), (v, .inr (10, [.int (nI pe), .int lc, .int de, .ref v3, .ref v4, .ref v5, .ref v6, .ref v7, .ref v8, .ref v9, .ref v10, .ref v11, .ref v12, .ref v13, .int gl, .ref v15]))] → lv_has ls 6 [(4, .int (nI j2)), (3, .int (nI (j1 + 1))), (0, .ref z0), (1, .ref v), (2, .int (nI nw))] → W p l e (RM 1 0 0) s m args below meth c H locs 0 0 Q (F0 m 54 ls []) := by
          intro fu2
          induction fu2 with
          | zero =>
            intro j2 fzc_2 hm2 hj2 hst2
            exact absurd hm2 (by omega)
          | succ fu2 ih2 =>
            intro j2 fzc_2 hm2 hj2 hst2 H locs ls hW hl
            refine lv_iload (pc := 54) hx hb dX7_prepare_54 (lv_at hl 0 rfl) ?_
            refine lv_aload_n (pc := 56) hx hb dX7_prepare_56 rfl (lv_at hl 2 rfl) ?_
            refine r_get X hW 0 ciX7 1 rfl (by decide) m_114 rfl rfl dX7_prepare_57 ?_
            refine lv_icmp_ge (tgt := 113) (pc := 60) hx hb dX7_prepare_60 rfl (fun c7 => ?_) (fun c7 => ?_)
            · have h8 : pe ≤ j2 := (nI_leI (a := pe) (b := j2) (by omega) (by omega)).mp c7
              have hN2 : j2 = pe := by omega
              rw [hN2] at hst2
              subst hst2
              have hW : WD g A s _ _ [(z0, .inr (7, [.ref zr, .int (nI pe), .int de, .int ((evy (nI pe)) &&& ((mn nw) ^^^ (-1 : Int32))), .int (mu nw), .ref zc, .ref ze1, .ref ze2, .ref ze3, .ref ze4, .ref ze5, .ref ze6, .int zi0, .int zi1, .int zi2, .int zi3, .int zi4])), (zc, .inl (g.2.1 1, 175, .inl (L2_X7_prepare pe mn K nw j1 fzc_1 pe))), (v4, .inl (g.2.1 1, 4, .inl mu)), (v5, .inl (g.2.1 1, 4, .inl mn)), (v10, .inl (g.2.1 1, 175, .inl K)), (v, .inr (10, [.int (nI pe), .int lc, .int de, .ref v3, .ref v4, .ref v5, .ref v6, .ref v7, .ref v8, .ref v9, .ref v10, .ref v11, .ref v12, .ref v13, .int gl, .ref v15]))] := hW
              refine lv_iinc (v := nI (j1 + 1 + 1)) (lv' := [(3, .int (nI (j1 + 1 + 1))), (4, .int (nI j2)), (0, .ref z0), (1, .ref v), (2, .int (nI nw))]) (pc := 113) hx hb dX7_prepare_113 hl (k := 1) rfl (nI_add (j1 + 1) 1) (by decide) rfl (fun ls hl => ?_)
              refine lv_goto (tgt := 45) (pc := 116) hx hb dX7_prepare_116 rfl ?_
              exact ih1 (j1 + 1) (L2_X7_prepare pe mn K nw j1 fzc_1 pe) (by omega) (by omega) (by rw [L1_X7_prepare, ← hst1]; exact (show L1_X7_prepares pe mn K nw j1 fzc_1 = (L2_X7_prepare pe mn K nw j1 fzc_1 pe) from rfl).symm) _ _ _ hW (lv_sub hl [0, 2, 3, 4] rfl)
            · have h9 : ¬ (pe ≤ j2) := fun q => c7 ((nI_leI (a := pe) (b := j2) (by omega) (by omega)).mpr q)
              refine lv_aload_n (pc := 63) hx hb dX7_prepare_63 rfl (lv_at hl 2 rfl) ?_
              refine r_get X hW 0 ciX7 3 rfl (by decide) m_116 rfl rfl dX7_prepare_64 ?_
              refine lv_iload (pc := 67) hx hb dX7_prepare_67 (lv_at hl 0 rfl) ?_
              refine c_SNi (pc := 69) (As := [.int ((evy (nI pe)) &&& ((mn nw) ^^^ (-1 : Int32))), .int (nI j2)]) (rest := []) (wr := [(z0, .inr (7, [.ref zr, .int (nI pe), .int de, .int ((evy (nI pe)) &&& ((mn nw) ^^^ (-1 : Int32))), .int (mu nw), .ref zc, .ref ze1, .ref ze2, .ref ze3, .ref ze4, .ref ze5, .ref ze6, .int zi0, .int zi1, .int zi2, .int zi3, .int zi4])), (zc, .inl (g.2.1 1, 175, .inl fzc_2)), (v4, .inl (g.2.1 1, 4, .inl mu)), (v5, .inl (g.2.1 1, 4, .inl mn)), (v10, .inl (g.2.1 1, 175, .inl K)), (v, .inr (10, [.int (nI pe), .int lc, .int de, .ref v3, .ref v4, .ref v5, .ref v6, .ref v7, .ref v8, .ref v9, .ref v10, .ref v11, .ref v12, .ref v13, .int gl, .ref v15]))]) X hW (C_X11_has l g ((evy (nI pe)) &&& ((mn nw) ^^^ (-1 : Int32))) (nI j2)) vX7_77 [] [0, 1, 2, 3, 4, 5] rfl rfl rfl rfl rfl rfl hl.1 rfl (Nat.le_of_ble_eq_true rfl) ⟨Nat.le_of_ble_eq_true rfl, Nat.le_of_ble_eq_true rfl⟩ ⟨Nat.le_of_ble_eq_true rfl, Nat.le_of_ble_eq_true rfl⟩ dX7_prepare_69 (fun r10 u9 H locs hq hW => ?_)
              obtain ⟨rfl, rfl⟩ := hq
              have hW : WD g A s _ _ [(z0, .inr (7, [.ref zr, .int (nI pe), .int de, .int ((evy (nI pe)) &&& ((mn nw) ^^^ (-1 : Int32))), .int (mu nw), .ref zc, .ref ze1, .ref ze2, .ref ze3, .ref ze4, .ref ze5, .ref ze6, .int zi0, .int zi1, .int zi2, .int zi3, .int zi4])), (zc, .inl (g.2.1 1, 175, .inl fzc_2)), (v4, .inl (g.2.1 1, 4, .inl mu)), (v5, .inl (g.2.1 1, 4, .inl mn)), (v10, .inl (g.2.1 1, 175, .inl K)), (v, .inr (10, [.int (nI pe), .int lc, .int de, .ref v3, .ref v4, .ref v5, .ref v6, .ref v7, .ref v8, .ref v9, .ref v10, .ref v11, .ref v12, .ref v13, .int gl, .ref v15]))] := hW
              refine lv_if_eq (tgt := 90) (pc := 72) hx hb dX7_prepare_72 rfl (fun c11 => ?_) (fun c11 => ?_)
              · refine lv_iconst (v := 0) (pc := 90) hx hb dX7_prepare_90 (by decide) ?_
                refine lv_istore (lv' := [(5, .int 0), (4, .int (nI j2)), (3, .int (nI (j1 + 1))), (0, .ref z0), (1, .ref v), (2, .int (nI nw))]) (pc := 91) hx hb dX7_prepare_91 hl (by decide) rfl (fun ls hl => ?_)
                refine lv_aload_n (pc := 93) hx hb dX7_prepare_93 rfl (lv_at hl 3 rfl) ?_
                refine r_get X hW 0 ciX7 5 rfl (by decide) m_118 rfl rfl dX7_prepare_94 ?_
                refine lv_iload_n (pc := 97) hx hb dX7_prepare_97 rfl (lv_at hl 2 rfl) ?_
                refine lv_bipush (v := 7) (pc := 98) hx hb dX7_prepare_98 (by decide) ?_
                refine lv_imul (pc := 100) hx hb dX7_prepare_100 ?_
                refine lv_topi (fun v13 ev13 => ?_)
                obtain rfl : v13 = nI ((j1 + 1) * 7) := ev13.trans (pk_mul (j1 + 1) 7)
                refine lv_iload (pc := 101) hx hb dX7_prepare_101 (lv_at hl 1 rfl) ?_
                refine lv_iadd (pc := 103) hx hb dX7_prepare_103 ?_
                refine lv_topi (fun v14 ev14 => ?_)
                obtain rfl : v14 = nI ((j1 + 1) * 7 + j2) := ev14.trans (nI_add _ _)
                refine lv_iload (pc := 104) hx hb dX7_prepare_104 (lv_at hl 0 rfl) ?_
                refine r_iast (ws' := [(z0, .inr (7, [.ref zr, .int (nI pe), .int de, .int ((evy (nI pe)) &&& ((mn nw) ^^^ (-1 : Int32))), .int (mu nw), .ref zc, .ref ze1, .ref ze2, .ref ze3, .ref ze4, .ref ze5, .ref ze6, .int zi0, .int zi1, .int zi2, .int zi3, .int zi4])), (zc, .inl (g.2.1 1, 175, .inl (upd fzc_2 ((j1 + 1) * 7 + j2) (0 : Int32)))), (v4, .inl (g.2.1 1, 4, .inl mu)), (v5, .inl (g.2.1 1, 4, .inl mn)), (v10, .inl (g.2.1 1, 175, .inl K)), (v, .inr (10, [.int (nI pe), .int lc, .int de, .ref v3, .ref v4, .ref v5, .ref v6, .ref v7, .ref v8, .ref v9, .ref v10, .ref v11, .ref v12, .ref v13, .int gl, .ref v15]))]) X hW 1 rfl (vp_in_nI (by omega) (by decide)) (f' := (upd fzc_2 ((j1 + 1) * 7 + j2) (0 : Int32))) (by rw [nI_clamp (by omega)]) rfl dX7_prepare_106 (fun H locs hW => ?_)
                refine lv_iinc (v := nI (j2 + 1)) (lv' := [(4, .int (nI (j2 + 1))), (5, .int 0), (3, .int (nI (j1 + 1))), (0, .ref z0), (1, .ref v), (2, .int (nI nw))]) (pc := 107) hx hb dX7_prepare_107 hl (k := 1) rfl (nI_add j2 1) (by decide) rfl (fun ls hl => ?_)
                refine lv_goto (tgt := 54) (pc := 110) hx hb dX7_prepare_110 rfl ?_
                exact ih2 (j2 + 1) (upd fzc_2 ((j1 + 1) * 7 + j2) (0 : Int32)) (by omega) (by omega) (by rw [L2_X7_prepare, ← hst2]; exact (show L2_X7_prepares pe mn K nw j1 j2 fzc_2 = (upd fzc_2 ((j1 + 1) * 7 + j2) (0 : Int32)) from by rw [L2_X7_prepares, if_pos c11]).symm) _ _ _ hW (lv_sub hl [0, 2, 3, 4, 5] rfl)
              · refine lv_aload_n (pc := 75) hx hb dX7_prepare_75 rfl (lv_at hl 3 rfl) ?_
                refine lv_iload (pc := 76) hx hb dX7_prepare_76 (lv_at hl 0 rfl) ?_
                refine lv_iload_n (pc := 78) hx hb dX7_prepare_78 rfl (lv_at hl 1 rfl) ?_
                refine c_Vi (pc := 79) (As := [.int (nI j2), .int (nI (j1 + 1))]) (rest := []) (wr := [(z0, .inr (7, [.ref zr, .int (nI pe), .int de, .int ((evy (nI pe)) &&& ((mn nw) ^^^ (-1 : Int32))), .int (mu nw), .ref zc, .ref ze1, .ref ze2, .ref ze3, .ref ze4, .ref ze5, .ref ze6, .int zi0, .int zi1, .int zi2, .int zi3, .int zi4])), (zc, .inl (g.2.1 1, 175, .inl fzc_2)), (v4, .inl (g.2.1 1, 4, .inl mu)), (v5, .inl (g.2.1 1, 4, .inl mn))]) X hW 5 ciX10 rfl (K_X10_callable l g v v3 v4 v5 v6 v7 v8 v9 v10 v11 v12 v13 v15 (nI pe) lc de gl K j2 (j1 + 1) (by omega) (by omega)) vX7_81 [5, 4] [0, 1, 2, 3] rfl rfl rfl rfl rfl rfl hl.1 rfl (Nat.le_of_ble_eq_true rfl) ⟨Nat.le_of_ble_eq_true rfl, Nat.le_of_ble_eq_true rfl⟩ ⟨Nat.le_of_ble_eq_true rfl, Nat.le_of_ble_eq_true rfl⟩ dX7_prepare_79 (fun r16 u9 H locs hq hW => ?_)
                obtain ⟨rfl, rfl⟩ := hq
                have hW : WD g A s _ _ [(z0, .inr (7, [.ref zr, .int (nI pe), .int de, .int ((evy (nI pe)) &&& ((mn nw) ^^^ (-1 : Int32))), .int (mu nw), .ref zc, .ref ze1, .ref ze2, .ref ze3, .ref ze4, .ref ze5, .ref ze6, .int zi0, .int zi1, .int zi2, .int zi3, .int zi4])), (zc, .inl (g.2.1 1, 175, .inl fzc_2)), (v4, .inl (g.2.1 1, 4, .inl mu)), (v5, .inl (g.2.1 1, 4, .inl mn)), (v, .inr (10, [.int (nI pe), .int lc, .int de, .ref v3, .ref v4, .ref v5, .ref v6, .ref v7, .ref v8, .ref v9, .ref v10, .ref v11, .ref v12, .ref v13, .int gl, .ref v15])), (v10, .inl (g.2.1 1, 175, .inl K))] := hW
                refine lv_aload_n (pc := 82) hx hb dX7_prepare_82 rfl (lv_at hl 2 rfl) ?_
                refine r_get X hW 0 ciX7 3 rfl (by decide) m_116 rfl rfl dX7_prepare_83 ?_
                refine lv_iand (pc := 86) hx hb dX7_prepare_86 ?_
                refine lv_goto (tgt := 91) (pc := 87) hx hb dX7_prepare_87 rfl ?_
                refine lv_istore (lv' := [(5, .int ((F_X10_callable K j2 (j1 + 1)) &&& ((evy (nI pe)) &&& ((mn nw) ^^^ (-1 : Int32))))), (4, .int (nI j2)), (3, .int (nI (j1 + 1))), (0, .ref z0), (1, .ref v), (2, .int (nI nw))]) (pc := 91) hx hb dX7_prepare_91 hl (by decide) rfl (fun ls hl => ?_)
                refine lv_aload_n (pc := 93) hx hb dX7_prepare_93 rfl (lv_at hl 3 rfl) ?_
                refine r_get X hW 0 ciX7 5 rfl (by decide) m_118 rfl rfl dX7_prepare_94 ?_
                refine lv_iload_n (pc := 97) hx hb dX7_prepare_97 rfl (lv_at hl 2 rfl) ?_
                refine lv_bipush (v := 7) (pc := 98) hx hb dX7_prepare_98 (by decide) ?_
                refine lv_imul (pc := 100) hx hb dX7_prepare_100 ?_
                refine lv_topi (fun v17 ev17 => ?_)
                obtain rfl : v17 = nI ((j1 + 1) * 7) := ev17.trans (pk_mul (j1 + 1) 7)
                refine lv_iload (pc := 101) hx hb dX7_prepare_101 (lv_at hl 1 rfl) ?_
                refine lv_iadd (pc := 103) hx hb dX7_prepare_103 ?_
                refine lv_topi (fun v18 ev18 => ?_)
                obtain rfl : v18 = nI ((j1 + 1) * 7 + j2) := ev18.trans (nI_add _ _)
                refine lv_iload (pc := 104) hx hb dX7_prepare_104 (lv_at hl 0 rfl) ?_
                refine r_iast (ws' := [(z0, .inr (7, [.ref zr, .int (nI pe), .int de, .int ((evy (nI pe)) &&& ((mn nw) ^^^ (-1 : Int32))), .int (mu nw), .ref zc, .ref ze1, .ref ze2, .ref ze3, .ref ze4, .ref ze5, .ref ze6, .int zi0, .int zi1, .int zi2, .int zi3, .int zi4])), (zc, .inl (g.2.1 1, 175, .inl (upd fzc_2 ((j1 + 1) * 7 + j2) ((F_X10_callable K j2 (j1 + 1)) &&& ((evy (nI pe)) &&& ((mn nw) ^^^ (-1 : Int32))))))), (v4, .inl (g.2.1 1, 4, .inl mu)), (v5, .inl (g.2.1 1, 4, .inl mn)), (v, .inr (10, [.int (nI pe), .int lc, .int de, .ref v3, .ref v4, .ref v5, .ref v6, .ref v7, .ref v8, .ref v9, .ref v10, .ref v11, .ref v12, .ref v13, .int gl, .ref v15])), (v10, .inl (g.2.1 1, 175, .inl K))]) X hW 1 rfl (vp_in_nI (by omega) (by decide)) (f' := (upd fzc_2 ((j1 + 1) * 7 + j2) ((F_X10_callable K j2 (j1 + 1)) &&& ((evy (nI pe)) &&& ((mn nw) ^^^ (-1 : Int32)))))) (by rw [nI_clamp (by omega)]) rfl dX7_prepare_106 (fun H locs hW => ?_)
                refine lv_iinc (v := nI (j2 + 1)) (lv' := [(4, .int (nI (j2 + 1))), (5, .int ((F_X10_callable K j2 (j1 + 1)) &&& ((evy (nI pe)) &&& ((mn nw) ^^^ (-1 : Int32))))), (3, .int (nI (j1 + 1))), (0, .ref z0), (1, .ref v), (2, .int (nI nw))]) (pc := 107) hx hb dX7_prepare_107 hl (k := 1) rfl (nI_add j2 1) (by decide) rfl (fun ls hl => ?_)
                refine lv_goto (tgt := 54) (pc := 110) hx hb dX7_prepare_110 rfl ?_
                have hW : WD g A s _ _ [(z0, .inr (7, [.ref zr, .int (nI pe), .int de, .int ((evy (nI pe)) &&& ((mn nw) ^^^ (-1 : Int32))), .int (mu nw), .ref zc, .ref ze1, .ref ze2, .ref ze3, .ref ze4, .ref ze5, .ref ze6, .int zi0, .int zi1, .int zi2, .int zi3, .int zi4])), (zc, .inl (g.2.1 1, 175, .inl (upd fzc_2 ((j1 + 1) * 7 + j2) ((F_X10_callable K j2 (j1 + 1)) &&& ((evy (nI pe)) &&& ((mn nw) ^^^ (-1 : Int32))))))), (v4, .inl (g.2.1 1, 4, .inl mu)), (v5, .inl (g.2.1 1, 4, .inl mn)), (v10, .inl (g.2.1 1, 175, .inl K)), (v, .inr (10, [.int (nI pe), .int lc, .int de, .ref v3, .ref v4, .ref v5, .ref v6, .ref v7, .ref v8, .ref v9, .ref v10, .ref v11, .ref v12, .ref v13, .int gl, .ref v15]))] := hW.pick [0, 1, 2, 3, 5, 4] rfl rfl
                exact ih2 (j2 + 1) (upd fzc_2 ((j1 + 1) * 7 + j2) ((F_X10_callable K j2 (j1 + 1)) &&& ((evy (nI pe)) &&& ((mn nw) ^^^ (-1 : Int32))))) (by omega) (by omega) (by rw [L2_X7_prepare, ← hst2]; exact (show L2_X7_prepares pe mn K nw j1 j2 fzc_2 = (upd fzc_2 ((j1 + 1) * 7 + j2) ((F_X10_callable K j2 (j1 + 1)) &&& ((evy (nI pe)) &&& ((mn nw) ^^^ (-1 : Int32))))) from by rw [L2_X7_prepares, if_neg c11]).symm) _ _ _ hW (lv_sub hl [0, 2, 3, 4, 5] rfl)
        exact loop2 (pe + 1) 0 fzc_1 (by omega) (by omega) rfl _ _ _ hW (lv_sub hl [0, 1, 2, 3, 4] rfl)
  exact loop1 (24 + 1) 0 cA (by omega) (by omega) rfl _ _ _ hW (lv_sub hl [0, 1, 2, 3] rfl)

def L1_X7_comeToAfters (cA : Nat → Int32) (co : Int32) (ho : Nat) (j1 : Nat) (x3_1 : Int32) : Int32 := if hasv co (nI j1) = 0 then (x3_1) else (x3_1 ||| (cA (ho * 7 + j1)))
def L1_X7_comeToAfter (cA : Nat → Int32) (co : Int32) (ho : Nat) (i0_ : Int32) : Nat → Int32
  | 0 => (i0_)
  | k_ + 1 => L1_X7_comeToAfters cA co ho k_ (L1_X7_comeToAfter cA co ho i0_ k_)
def F_X7_comeToAfter (zp : Nat) (cA : Nat → Int32) (co : Int32) (ho : Nat) : Int32 := (L1_X7_comeToAfter cA co ho co zp)
set_option maxHeartbeats 4000000 in
set_option maxRecDepth 100000 in
theorem K_X7_comeToAfter (l : Launch) (g : GG) (z0 : Nat) (zr : Nat) (zc : Nat) (ze1 : Nat) (ze2 : Nat) (ze3 : Nat) (ze4 : Nat) (ze5 : Nat) (ze6 : Nat) (zp : Nat) (zd : Int32) (zt : Int32) (zm : Int32) (zi0 : Int32) (zi1 : Int32) (zi2 : Int32) (zi3 : Int32) (zi4 : Int32) (cA : Nat → Int32) (co : Int32) (ho : Nat) (hzp : zp ≤ 7) (hho : ho ≤ 24) : MetI l g yX7_comeToAfter cX7_comeToAfter 5 (some .int) 1 0 0 [.ref z0, .int co, .int (nI ho)] [(z0, .inr (7, [.ref zr, .int (nI zp), .int zd, .int zt, .int zm, .ref zc, .ref ze1, .ref ze2, .ref ze3, .ref ze4, .ref ze5, .ref ze6, .int zi0, .int zi1, .int zi2, .int zi3, .int zi4])), (zc, .inl (g.2.1 1, 175, .inl cA))] (fun r u => r = (F_X7_comeToAfter zp cA co ho) ∧ u = [(z0, .inr (7, [.ref zr, .int (nI zp), .int zd, .int zt, .int zm, .ref zc, .ref ze1, .ref ze2, .ref ze3, .ref ze4, .ref ze5, .ref ze6, .int zi0, .int zi1, .int zi2, .int zi3, .int zi4])), (zc, .inl (g.2.1 1, 175, .inl cA))]) := by
  refine MetI.of (own := RX7) rfl (by decide) (Nat.le_of_ble_eq_true rfl) ?_
  intro p e s m below meth c A ls args Q hQ X hr hin hW hl
  have hx := X.1
  have hb := X.2.1
  have hl : lv_has ls 5 [(0, .ref z0), (1, .int co), (2, .int (nI ho))] := hl
  refine lv_iload_n (pc := 0) hx hb dX7_comeToAfter_0 rfl (lv_at hl 1 rfl) ?_
  refine lv_istore_n (lv' := [(3, .int co), (0, .ref z0), (1, .int co), (2, .int (nI ho))]) (pc := 1) hx hb dX7_comeToAfter_1 rfl hl (by decide) rfl (fun ls hl => ?_)
  refine lv_iconst (v := 0) (pc := 2) hx hb dX7_comeToAfter_2 (by decide) ?_
  refine lv_istore (lv' := [(4, .int 0), (3, .int co), (0, .ref z0), (1, .int co), (2, .int (nI ho))]) (pc := 3) hx hb dX7_comeToAfter_3 hl (by decide) rfl (fun ls hl => ?_)
  have loop1 : ∀ (fu1 : Nat) (j1 : Nat) (x3_1 : Int32), (zp < fu1 + j1) → (j1 ≤ zp) → (x3_1 = L1_X7_comeToAfter cA co ho co j1) → ∀ (H : Heap) (locs : List Loc) (ls : Array Slot), WD g A s H locs [(z0, .inr (7, [.ref zr, .int (nI zp), .int zd, .int zt, .int zm, .ref zc, .ref ze1, .ref ze2, .ref ze3, .ref ze4, .ref ze5, .ref ze6, .int zi0, .int zi1, .int zi2, .int zi3, .int zi4])), (zc, .inl (g.2.1 1, 175, .inl cA))] → lv_has ls 5 [(4, .int (nI j1)), (3, .int x3_1), (0, .ref z0), (1, .int co), (2, .int (nI ho))] → W p l e (RM 1 0 0) s m args below meth c H locs 0 0 Q (F0 m 5 ls []) := by
    intro fu1
    induction fu1 with
    | zero =>
      intro j1 x3_1 hm1 hj1 hst1
      exact absurd hm1 (by omega)
    | succ fu1 ih1 =>
      intro j1 x3_1 hm1 hj1 hst1 H locs ls hW hl
      refine lv_iload (pc := 5) hx hb dX7_comeToAfter_5 (lv_at hl 0 rfl) ?_
      refine lv_aload_n (pc := 7) hx hb dX7_comeToAfter_7 rfl (lv_at hl 2 rfl) ?_
      refine r_get X hW 0 ciX7 1 rfl (by decide) m_114 rfl rfl dX7_comeToAfter_8 ?_
      refine lv_icmp_ge (tgt := 44) (pc := 11) hx hb dX7_comeToAfter_11 rfl (fun c1 => ?_) (fun c1 => ?_)
      · have h2 : zp ≤ j1 := (nI_leI (a := zp) (b := j1) (by omega) (by omega)).mp c1
        have hN1 : j1 = zp := by omega
        rw [hN1] at hst1
        subst hst1
        have hW : WD g A s _ _ [(z0, .inr (7, [.ref zr, .int (nI zp), .int zd, .int zt, .int zm, .ref zc, .ref ze1, .ref ze2, .ref ze3, .ref ze4, .ref ze5, .ref ze6, .int zi0, .int zi1, .int zi2, .int zi3, .int zi4])), (zc, .inl (g.2.1 1, 175, .inl cA))] := hW
        refine lv_iload_n (pc := 44) hx hb dX7_comeToAfter_44 rfl (lv_at hl 1 rfl) ?_
        have hF : F_X7_comeToAfter zp cA co ho = (L1_X7_comeToAfter cA co ho co zp) := show F_X7_comeToAfter zp cA co ho = (L1_X7_comeToAfter cA co ho co zp) from rfl
        exact e_i (u := [(z0, .inr (7, [.ref zr, .int (nI zp), .int zd, .int zt, .int zm, .ref zc, .ref ze1, .ref ze2, .ref ze3, .ref ze4, .ref ze5, .ref ze6, .int zi0, .int zi1, .int zi2, .int zi3, .int zi4])), (zc, .inl (g.2.1 1, 175, .inl cA))]) X hQ hr (hW) [0, 1] rfl rfl (⟨hF.symm, rfl⟩) ⟨Nat.le_of_ble_eq_true rfl, Nat.le_of_ble_eq_true rfl⟩ dX7_comeToAfter_45
      · have h3 : ¬ (zp ≤ j1) := fun q => c1 ((nI_leI (a := zp) (b := j1) (by omega) (by omega)).mpr q)
        refine lv_iload_n (pc := 14) hx hb dX7_comeToAfter_14 rfl (lv_at hl 3 rfl) ?_
        refine lv_iload (pc := 15) hx hb dX7_comeToAfter_15 (lv_at hl 0 rfl) ?_
        refine c_SNi (pc := 17) (As := [.int co, .int (nI j1)]) (rest := []) (wr := [(z0, .inr (7, [.ref zr, .int (nI zp), .int zd, .int zt, .int zm, .ref zc, .ref ze1, .ref ze2, .ref ze3, .ref ze4, .ref ze5, .ref ze6, .int zi0, .int zi1, .int zi2, .int zi3, .int zi4])), (zc, .inl (g.2.1 1, 175, .inl cA))]) X hW (C_X11_has l g co (nI j1)) vX7_77 [] [0, 1] rfl rfl rfl rfl rfl rfl hl.1 rfl (Nat.le_of_ble_eq_true rfl) ⟨Nat.le_of_ble_eq_true rfl, Nat.le_of_ble_eq_true rfl⟩ ⟨Nat.le_of_ble_eq_true rfl, Nat.le_of_ble_eq_true rfl⟩ dX7_comeToAfter_17 (fun r4 u9 H locs hq hW => ?_)
        obtain ⟨rfl, rfl⟩ := hq
        have hW : WD g A s _ _ [(z0, .inr (7, [.ref zr, .int (nI zp), .int zd, .int zt, .int zm, .ref zc, .ref ze1, .ref ze2, .ref ze3, .ref ze4, .ref ze5, .ref ze6, .int zi0, .int zi1, .int zi2, .int zi3, .int zi4])), (zc, .inl (g.2.1 1, 175, .inl cA))] := hW
        refine lv_if_eq (tgt := 38) (pc := 20) hx hb dX7_comeToAfter_20 rfl (fun c5 => ?_) (fun c5 => ?_)
        · refine lv_iinc (v := nI (j1 + 1)) (lv' := [(4, .int (nI (j1 + 1))), (3, .int x3_1), (0, .ref z0), (1, .int co), (2, .int (nI ho))]) (pc := 38) hx hb dX7_comeToAfter_38 hl (k := 0) rfl (nI_add j1 1) (by decide) rfl (fun ls hl => ?_)
          refine lv_goto (tgt := 5) (pc := 41) hx hb dX7_comeToAfter_41 rfl ?_
          exact ih1 (j1 + 1) x3_1 (by omega) (by omega) (by rw [L1_X7_comeToAfter, ← hst1]; exact (show L1_X7_comeToAfters cA co ho j1 x3_1 = x3_1 from by rw [L1_X7_comeToAfters, if_pos c5]).symm) _ _ _ hW (lv_sub hl [0, 1, 2, 3, 4] rfl)
        · refine lv_iload_n (pc := 23) hx hb dX7_comeToAfter_23 rfl (lv_at hl 1 rfl) ?_
          refine lv_aload_n (pc := 24) hx hb dX7_comeToAfter_24 rfl (lv_at hl 2 rfl) ?_
          refine r_get X hW 0 ciX7 5 rfl (by decide) m_118 rfl rfl dX7_comeToAfter_25 ?_
          refine lv_iload_n (pc := 28) hx hb dX7_comeToAfter_28 rfl (lv_at hl 4 rfl) ?_
          refine lv_bipush (v := 7) (pc := 29) hx hb dX7_comeToAfter_29 (by decide) ?_
          refine lv_imul (pc := 31) hx hb dX7_comeToAfter_31 ?_
          refine lv_topi (fun v8 ev8 => ?_)
          obtain rfl : v8 = nI (ho * 7) := ev8.trans (pk_mul ho 7)
          refine lv_iload (pc := 32) hx hb dX7_comeToAfter_32 (lv_at hl 0 rfl) ?_
          refine lv_iadd (pc := 34) hx hb dX7_comeToAfter_34 ?_
          refine lv_topi (fun v9 ev9 => ?_)
          obtain rfl : v9 = nI (ho * 7 + j1) := ev9.trans (nI_add _ _)
          refine r_iald X hW 1 rfl (vp_in_nI (by omega) (by decide)) dX7_comeToAfter_35 ?_
          refine lv_topi (fun v10 ev10 => ?_)
          obtain rfl : v10 = cA (ho * 7 + j1) := ev10.trans (by rw [nI_clamp (by omega)])
          refine lv_ior (pc := 36) hx hb dX7_comeToAfter_36 ?_
          refine lv_istore_n (lv' := [(3, .int (x3_1 ||| (cA (ho * 7 + j1)))), (4, .int (nI j1)), (0, .ref z0), (1, .int co), (2, .int (nI ho))]) (pc := 37) hx hb dX7_comeToAfter_37 rfl hl (by decide) rfl (fun ls hl => ?_)
          refine lv_iinc (v := nI (j1 + 1)) (lv' := [(4, .int (nI (j1 + 1))), (3, .int (x3_1 ||| (cA (ho * 7 + j1)))), (0, .ref z0), (1, .int co), (2, .int (nI ho))]) (pc := 38) hx hb dX7_comeToAfter_38 hl (k := 1) rfl (nI_add j1 1) (by decide) rfl (fun ls hl => ?_)
          refine lv_goto (tgt := 5) (pc := 41) hx hb dX7_comeToAfter_41 rfl ?_
          exact ih1 (j1 + 1) (x3_1 ||| (cA (ho * 7 + j1))) (by omega) (by omega) (by rw [L1_X7_comeToAfter, ← hst1]; exact (show L1_X7_comeToAfters cA co ho j1 x3_1 = x3_1 ||| (cA (ho * 7 + j1)) from by rw [L1_X7_comeToAfters, if_neg c5]).symm) _ _ _ hW (lv_sub hl [0, 1, 2, 3, 4] rfl)
  exact loop1 (zp + 1) 0 co (by omega) (by omega) rfl _ _ _ hW (lv_sub hl [0, 1, 2, 3, 4] rfl)

def F_X12_isAsked (nv : Nat) (x : Int32) (y : Int32) : Int32 := if F_X12_isValley nv x = 0 then ((0 : Int32)) else (if F_X12_isNews y = 0 then ((0 : Int32)) else ((1 : Int32)))
set_option maxHeartbeats 4000000 in
set_option maxRecDepth 100000 in
theorem K_X12_isAsked (l : Launch) (g : GG) (h0 : Nat) (vs : List Value) (nv : Nat) (x : Int32) (y : Int32) (hlen : vs.length = 64) (h18_ : vs[18]? = some (.int (nI nv))) (hn : nv ≤ 10) : MetI l g yX12_isAsked cX12_isAsked 3 (some .boolean) 2 0 0 [.ref h0, .int x, .int y] [(h0, .inr (12, vs))] (fun r u => r = (F_X12_isAsked nv x y) ∧ u = [(h0, .inr (12, (vs.set 0 (.int 0))))]) := by
  refine MetI.of (own := RX12) rfl (by decide) (Nat.le_of_ble_eq_true rfl) ?_
  intro p e s m below meth c A ls args Q hQ X hr hin hW hl
  have hx := X.1
  have hb := X.2.1
  have hl : lv_has ls 3 [(0, .ref h0), (1, .int x), (2, .int y)] := hl
  refine lv_aload_n (pc := 0) hx hb dX12_isAsked_0 rfl (lv_at hl 0 rfl) ?_
  refine lv_iconst (v := 0) (pc := 1) hx hb dX12_isAsked_1 (by decide) ?_
  refine r_put (ws' := [(h0, .inr (12, (vs.set 0 (.int 0))))]) X hW 0 ciX12 0 rfl (by decide) m_1231 rfl rfl rfl rfl (sv_lt (by decide) hlen) rfl dX12_isAsked_2 (fun H locs hW => ?_)
  refine lv_aload_n (pc := 5) hx hb dX12_isAsked_5 rfl (lv_at hl 0 rfl) ?_
  refine lv_iload_n (pc := 6) hx hb dX12_isAsked_6 rfl (lv_at hl 1 rfl) ?_
  refine c_Vi (pc := 7) (As := [.int x]) (rest := []) (wr := []) X hW 0 ciX12 rfl (K_X12_isValley l g h0 (vs.set 0 (.int 0)) nv x (sv_len hlen) (sv_ne (k := 0) (by decide) h18_)) vX12_221 [0] [] rfl rfl rfl rfl rfl rfl hl.1 rfl (Nat.le_of_ble_eq_true rfl) ⟨Nat.le_of_ble_eq_true rfl, Nat.le_of_ble_eq_true rfl⟩ ⟨Nat.le_of_ble_eq_true rfl, Nat.le_of_ble_eq_true rfl⟩ dX12_isAsked_7 (fun r1 u9 H locs hq hW => ?_)
  obtain ⟨rfl, rfl⟩ := hq
  have hW : WD g A s _ _ [(h0, .inr (12, (vs.set 0 (.int 0))))] := hW
  refine lv_if_eq (tgt := 24) (pc := 10) hx hb dX12_isAsked_10 rfl (fun c2 => ?_) (fun c2 => ?_)
  · refine lv_iconst (v := 0) (pc := 24) hx hb dX12_isAsked_24 (by decide) ?_
    have hF : F_X12_isAsked nv x y = (0 : Int32) := show F_X12_isAsked nv x y = (0 : Int32) from by rw [F_X12_isAsked, if_pos c2]
    exact e_z (u := [(h0, .inr (12, (vs.set 0 (.int 0))))]) X hQ hr (hW) rfl [0] rfl rfl (⟨hF.symm, rfl⟩) ⟨Nat.le_of_ble_eq_true rfl, Nat.le_of_ble_eq_true rfl⟩ dX12_isAsked_25
  · refine lv_iload_n (pc := 13) hx hb dX12_isAsked_13 rfl (lv_at hl 2 rfl) ?_
    refine c_Si (pc := 14) (As := [.int y]) (rest := []) (wr := [(h0, .inr (12, (vs.set 0 (.int 0))))]) X hW (K_X12_isNews l g y) vX12_308 [] [0] rfl rfl rfl rfl rfl rfl hl.1 rfl (Nat.le_of_ble_eq_true rfl) ⟨Nat.le_of_ble_eq_true rfl, Nat.le_of_ble_eq_true rfl⟩ ⟨Nat.le_of_ble_eq_true rfl, Nat.le_of_ble_eq_true rfl⟩ dX12_isAsked_14 (fun r5 u9 H locs hq hW => ?_)
    obtain ⟨rfl, rfl⟩ := hq
    have hW : WD g A s _ _ [(h0, .inr (12, (vs.set 0 (.int 0))))] := hW
    refine lv_if_eq (tgt := 24) (pc := 17) hx hb dX12_isAsked_17 rfl (fun c6 => ?_) (fun c6 => ?_)
    · refine lv_iconst (v := 0) (pc := 24) hx hb dX12_isAsked_24 (by decide) ?_
      have hF : F_X12_isAsked nv x y = (0 : Int32) := show F_X12_isAsked nv x y = (0 : Int32) from by rw [F_X12_isAsked, if_neg c2, if_pos c6]
      exact e_z (u := [(h0, .inr (12, (vs.set 0 (.int 0))))]) X hQ hr (hW) rfl [0] rfl rfl (⟨hF.symm, rfl⟩) ⟨Nat.le_of_ble_eq_true rfl, Nat.le_of_ble_eq_true rfl⟩ dX12_isAsked_25
    · refine lv_iconst (v := 1) (pc := 20) hx hb dX12_isAsked_20 (by decide) ?_
      refine lv_goto (tgt := 25) (pc := 21) hx hb dX12_isAsked_21 rfl ?_
      have hF : F_X12_isAsked nv x y = (1 : Int32) := show F_X12_isAsked nv x y = (1 : Int32) from by rw [F_X12_isAsked, if_neg c2, if_neg c6]
      exact e_z (u := [(h0, .inr (12, (vs.set 0 (.int 0))))]) X hQ hr (hW) rfl [0] rfl rfl (⟨hF.symm, rfl⟩) ⟨Nat.le_of_ble_eq_true rfl, Nat.le_of_ble_eq_true rfl⟩ dX12_isAsked_25

theorem ia_at {x y : Int32} {nv : Nat} (hn : nv ≤ 10) (h : ¬ F_X12_isAsked nv x y = 0) : (x = nI (tN x) ∧ tN x < nv) ∧ (y = nI (tN y) ∧ tN y < 4) := by
  unfold F_X12_isAsked at h
  by_cases h1 : F_X12_isValley nv x = 0
  · rw [if_pos h1] at h; exact absurd rfl h
  · rw [if_neg h1] at h
    by_cases h2 : F_X12_isNews y = 0
    · rw [if_pos h2] at h; exact absurd rfl h
    · exact ⟨rv_at (by omega) h1, hn_at (show ¬ F_X11_isNews y = 0 from h2)⟩

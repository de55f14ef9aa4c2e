theorem dX4_verdictOf_0 : decode cX4_verdictOf 0 = .ok (.iload_n 1, 1) := DX4_verdictOf _ _ _ rfl
theorem dX4_verdictOf_1 : decode cX4_verdictOf 1 = .ok (.ifCond .ne 5, 3) := DX4_verdictOf _ _ _ rfl
theorem dX4_verdictOf_6 : decode cX4_verdictOf 6 = .ok (.iload_n 2, 1) := DX4_verdictOf _ _ _ rfl
theorem dX4_verdictOf_7 : decode cX4_verdictOf 7 = .ok (.iload_n 0, 1) := DX4_verdictOf _ _ _ rfl
theorem dX4_verdictOf_8 : decode cX4_verdictOf 8 = .ok (.invokestatic 55, 3) := DX4_verdictOf _ _ _ rfl
theorem dX4_verdictOf_11 : decode cX4_verdictOf 11 = .ok (.ifCond .eq 5, 3) := DX4_verdictOf _ _ _ rfl
theorem dX4_verdictOf_16 : decode cX4_verdictOf 16 = .ok (.iload_n 1, 1) := DX4_verdictOf _ _ _ rfl
theorem dX4_verdictOf_17 : decode cX4_verdictOf 17 = .ok (.iload_n 2, 1) := DX4_verdictOf _ _ _ rfl
theorem dX4_verdictOf_18 : decode cX4_verdictOf 18 = .ok (.iand, 1) := DX4_verdictOf _ _ _ rfl
theorem dX4_verdictOf_19 : decode cX4_verdictOf 19 = .ok (.ifCond .eq 7, 3) := DX4_verdictOf _ _ _ rfl
theorem dX4_verdictOf_26 : decode cX4_verdictOf 26 = .ok (.iconst 0, 1) := DX4_verdictOf _ _ _ rfl
theorem dX4_verdictOf_27 : decode cX4_verdictOf 27 = .ok (.ireturn, 1) := DX4_verdictOf _ _ _ rfl
theorem dX4_verdictOf_22 : decode cX4_verdictOf 22 = .ok (.iconst 3, 1) := DX4_verdictOf _ _ _ rfl
theorem dX4_verdictOf_23 : decode cX4_verdictOf 23 = .ok (.goto 4, 3) := DX4_verdictOf _ _ _ rfl
theorem dX4_verdictOf_14 : decode cX4_verdictOf 14 = .ok (.iconst 2, 1) := DX4_verdictOf _ _ _ rfl
theorem dX4_verdictOf_15 : decode cX4_verdictOf 15 = .ok (.ireturn, 1) := DX4_verdictOf _ _ _ rfl
theorem dX4_verdictOf_4 : decode cX4_verdictOf 4 = .ok (.iconst 1, 1) := DX4_verdictOf _ _ _ rfl
theorem dX4_verdictOf_5 : decode cX4_verdictOf 5 = .ok (.ireturn, 1) := DX4_verdictOf _ _ _ rfl
theorem dX4_judge_0 : decode cX4_judge 0 = .ok (.iconst 0, 1) := DX4_judge _ _ _ rfl
theorem dX4_judge_1 : decode cX4_judge 1 = .ok (.istore_n 1, 1) := DX4_judge _ _ _ rfl
theorem dX4_judge_2 : decode cX4_judge 2 = .ok (.iconst 0, 1) := DX4_judge _ _ _ rfl
theorem dX4_judge_3 : decode cX4_judge 3 = .ok (.istore_n 2, 1) := DX4_judge _ _ _ rfl
theorem dX4_judge_4 : decode cX4_judge 4 = .ok (.iconst 0, 1) := DX4_judge _ _ _ rfl
theorem dX4_judge_5 : decode cX4_judge 5 = .ok (.istore_n 3, 1) := DX4_judge _ _ _ rfl
theorem dX4_judge_6 : decode cX4_judge 6 = .ok (.iload_n 3, 1) := DX4_judge _ _ _ rfl
theorem dX4_judge_7 : decode cX4_judge 7 = .ok (.aload_n 0, 1) := DX4_judge _ _ _ rfl
theorem dX4_judge_8 : decode cX4_judge 8 = .ok (.getfield 37, 3) := DX4_judge _ _ _ rfl
theorem dX4_judge_11 : decode cX4_judge 11 = .ok (.if_icmp .ge 138, 3) := DX4_judge _ _ _ rfl
theorem dX4_judge_149 : decode cX4_judge 149 = .ok (.return_, 1) := DX4_judge _ _ _ rfl
theorem dX4_judge_14 : decode cX4_judge 14 = .ok (.aload_n 0, 1) := DX4_judge _ _ _ rfl
theorem dX4_judge_15 : decode cX4_judge 15 = .ok (.getfield 24, 3) := DX4_judge _ _ _ rfl
theorem dX4_judge_18 : decode cX4_judge 18 = .ok (.iload_n 3, 1) := DX4_judge _ _ _ rfl
theorem dX4_judge_19 : decode cX4_judge 19 = .ok (.iaload, 1) := DX4_judge _ _ _ rfl
theorem dX4_judge_20 : decode cX4_judge 20 = .ok (.istore 4, 2) := DX4_judge _ _ _ rfl
theorem dX4_judge_22 : decode cX4_judge 22 = .ok (.aload_n 0, 1) := DX4_judge _ _ _ rfl
theorem dX4_judge_23 : decode cX4_judge 23 = .ok (.getfield 11, 3) := DX4_judge _ _ _ rfl
theorem dX4_judge_26 : decode cX4_judge 26 = .ok (.iload 4, 2) := DX4_judge _ _ _ rfl
theorem dX4_judge_28 : decode cX4_judge 28 = .ok (.iaload, 1) := DX4_judge _ _ _ rfl
theorem dX4_judge_29 : decode cX4_judge 29 = .ok (.iload_n 1, 1) := DX4_judge _ _ _ rfl
theorem dX4_judge_30 : decode cX4_judge 30 = .ok (.if_icmp .eq 13, 3) := DX4_judge _ _ _ rfl
theorem dX4_judge_43 : decode cX4_judge 43 = .ok (.aload_n 0, 1) := DX4_judge _ _ _ rfl
theorem dX4_judge_44 : decode cX4_judge 44 = .ok (.getfield 18, 3) := DX4_judge _ _ _ rfl
theorem dX4_judge_47 : decode cX4_judge 47 = .ok (.iload 4, 2) := DX4_judge _ _ _ rfl
theorem dX4_judge_49 : decode cX4_judge 49 = .ok (.iaload, 1) := DX4_judge _ _ _ rfl
theorem dX4_judge_50 : decode cX4_judge 50 = .ok (.istore 5, 2) := DX4_judge _ _ _ rfl
theorem dX4_judge_52 : decode cX4_judge 52 = .ok (.aload_n 0, 1) := DX4_judge _ _ _ rfl
theorem dX4_judge_53 : decode cX4_judge 53 = .ok (.getfield 15, 3) := DX4_judge _ _ _ rfl
theorem dX4_judge_56 : decode cX4_judge 56 = .ok (.iload 4, 2) := DX4_judge _ _ _ rfl
theorem dX4_judge_58 : decode cX4_judge 58 = .ok (.iaload, 1) := DX4_judge _ _ _ rfl
theorem dX4_judge_59 : decode cX4_judge 59 = .ok (.iconst 3, 1) := DX4_judge _ _ _ rfl
theorem dX4_judge_60 : decode cX4_judge 60 = .ok (.if_icmp .ne 7, 3) := DX4_judge _ _ _ rfl
theorem dX4_judge_67 : decode cX4_judge 67 = .ok (.iconst 1, 1) := DX4_judge _ _ _ rfl
theorem dX4_judge_68 : decode cX4_judge 68 = .ok (.aload_n 0, 1) := DX4_judge _ _ _ rfl
theorem dX4_judge_69 : decode cX4_judge 69 = .ok (.getfield 21, 3) := DX4_judge _ _ _ rfl
theorem dX4_judge_72 : decode cX4_judge 72 = .ok (.iload 4, 2) := DX4_judge _ _ _ rfl
theorem dX4_judge_74 : decode cX4_judge 74 = .ok (.iaload, 1) := DX4_judge _ _ _ rfl
theorem dX4_judge_75 : decode cX4_judge 75 = .ok (.ishl, 1) := DX4_judge _ _ _ rfl
theorem dX4_judge_76 : decode cX4_judge 76 = .ok (.istore 6, 2) := DX4_judge _ _ _ rfl
theorem dX4_judge_78 : decode cX4_judge 78 = .ok (.aload_n 0, 1) := DX4_judge _ _ _ rfl
theorem dX4_judge_79 : decode cX4_judge 79 = .ok (.getfield 30, 3) := DX4_judge _ _ _ rfl
theorem dX4_judge_82 : decode cX4_judge 82 = .ok (.iload 4, 2) := DX4_judge _ _ _ rfl
theorem dX4_judge_84 : decode cX4_judge 84 = .ok (.iload 6, 2) := DX4_judge _ _ _ rfl
theorem dX4_judge_86 : decode cX4_judge 86 = .ok (.aload_n 0, 1) := DX4_judge _ _ _ rfl
theorem dX4_judge_87 : decode cX4_judge 87 = .ok (.getfield 33, 3) := DX4_judge _ _ _ rfl
theorem dX4_judge_90 : decode cX4_judge 90 = .ok (.iload 5, 2) := DX4_judge _ _ _ rfl
theorem dX4_judge_92 : decode cX4_judge 92 = .ok (.iload_n 1, 1) := DX4_judge _ _ _ rfl
theorem dX4_judge_93 : decode cX4_judge 93 = .ok (.invokevirtual 45, 3) := DX4_judge _ _ _ rfl
theorem dX4_judge_96 : decode cX4_judge 96 = .ok (.iand, 1) := DX4_judge _ _ _ rfl
theorem dX4_judge_97 : decode cX4_judge 97 = .ok (.iastore, 1) := DX4_judge _ _ _ rfl
theorem dX4_judge_98 : decode cX4_judge 98 = .ok (.aload_n 0, 1) := DX4_judge _ _ _ rfl
theorem dX4_judge_99 : decode cX4_judge 99 = .ok (.getfield 27, 3) := DX4_judge _ _ _ rfl
theorem dX4_judge_102 : decode cX4_judge 102 = .ok (.iload 4, 2) := DX4_judge _ _ _ rfl
theorem dX4_judge_104 : decode cX4_judge 104 = .ok (.iload 5, 2) := DX4_judge _ _ _ rfl
theorem dX4_judge_106 : decode cX4_judge 106 = .ok (.aload_n 0, 1) := DX4_judge _ _ _ rfl
theorem dX4_judge_107 : decode cX4_judge 107 = .ok (.getfield 30, 3) := DX4_judge _ _ _ rfl
theorem dX4_judge_110 : decode cX4_judge 110 = .ok (.iload 4, 2) := DX4_judge _ _ _ rfl
theorem dX4_judge_112 : decode cX4_judge 112 = .ok (.iaload, 1) := DX4_judge _ _ _ rfl
theorem dX4_judge_113 : decode cX4_judge 113 = .ok (.iload_n 2, 1) := DX4_judge _ _ _ rfl
theorem dX4_judge_114 : decode cX4_judge 114 = .ok (.invokestatic 51, 3) := DX4_judge _ _ _ rfl
theorem dX4_judge_117 : decode cX4_judge 117 = .ok (.iastore, 1) := DX4_judge _ _ _ rfl
theorem dX4_judge_118 : decode cX4_judge 118 = .ok (.aload_n 0, 1) := DX4_judge _ _ _ rfl
theorem dX4_judge_119 : decode cX4_judge 119 = .ok (.getfield 27, 3) := DX4_judge _ _ _ rfl
theorem dX4_judge_122 : decode cX4_judge 122 = .ok (.iload 4, 2) := DX4_judge _ _ _ rfl
theorem dX4_judge_124 : decode cX4_judge 124 = .ok (.iaload, 1) := DX4_judge _ _ _ rfl
theorem dX4_judge_125 : decode cX4_judge 125 = .ok (.ifCond .ne 18, 3) := DX4_judge _ _ _ rfl
theorem dX4_judge_143 : decode cX4_judge 143 = .ok (.iinc 3 1, 3) := DX4_judge _ _ _ rfl
theorem dX4_judge_146 : decode cX4_judge 146 = .ok (.goto (-140), 3) := DX4_judge _ _ _ rfl
theorem dX4_judge_128 : decode cX4_judge 128 = .ok (.iload_n 2, 1) := DX4_judge _ _ _ rfl
theorem dX4_judge_129 : decode cX4_judge 129 = .ok (.iconst 1, 1) := DX4_judge _ _ _ rfl
theorem dX4_judge_130 : decode cX4_judge 130 = .ok (.iload 5, 2) := DX4_judge _ _ _ rfl
theorem dX4_judge_132 : decode cX4_judge 132 = .ok (.ishl, 1) := DX4_judge _ _ _ rfl
theorem dX4_judge_133 : decode cX4_judge 133 = .ok (.aload_n 0, 1) := DX4_judge _ _ _ rfl
theorem dX4_judge_134 : decode cX4_judge 134 = .ok (.getfield 30, 3) := DX4_judge _ _ _ rfl
theorem dX4_judge_137 : decode cX4_judge 137 = .ok (.iload 4, 2) := DX4_judge _ _ _ rfl
theorem dX4_judge_139 : decode cX4_judge 139 = .ok (.iaload, 1) := DX4_judge _ _ _ rfl
theorem dX4_judge_140 : decode cX4_judge 140 = .ok (.ior, 1) := DX4_judge _ _ _ rfl
theorem dX4_judge_141 : decode cX4_judge 141 = .ok (.ior, 1) := DX4_judge _ _ _ rfl
theorem dX4_judge_142 : decode cX4_judge 142 = .ok (.istore_n 2, 1) := DX4_judge _ _ _ rfl
theorem dX4_judge_63 : decode cX4_judge 63 = .ok (.iconst (-1), 1) := DX4_judge _ _ _ rfl
theorem dX4_judge_64 : decode cX4_judge 64 = .ok (.goto 12, 3) := DX4_judge _ _ _ rfl
theorem dX4_judge_33 : decode cX4_judge 33 = .ok (.aload_n 0, 1) := DX4_judge _ _ _ rfl
theorem dX4_judge_34 : decode cX4_judge 34 = .ok (.getfield 11, 3) := DX4_judge _ _ _ rfl
theorem dX4_judge_37 : decode cX4_judge 37 = .ok (.iload 4, 2) := DX4_judge _ _ _ rfl
theorem dX4_judge_39 : decode cX4_judge 39 = .ok (.iaload, 1) := DX4_judge _ _ _ rfl
theorem dX4_judge_40 : decode cX4_judge 40 = .ok (.istore_n 1, 1) := DX4_judge _ _ _ rfl
theorem dX4_judge_41 : decode cX4_judge 41 = .ok (.iconst 0, 1) := DX4_judge _ _ _ rfl
theorem dX4_judge_42 : decode cX4_judge 42 = .ok (.istore_n 2, 1) := DX4_judge _ _ _ rfl
def F_X4_verdictOf (ca : Int32) (ot : Int32) (bu : Int32) : Int32 := if ot = 0 then ((1 : Int32)) else (if hasv bu ca = 0 then (if ot &&& bu = 0 then ((0 : Int32)) else ((3 : Int32))) else ((2 : Int32)))
set_option maxHeartbeats 4000000 in
set_option maxRecDepth 100000 in
theorem K_X4_verdictOf (l : Launch) (g : GG) (ca : Int32) (ot : Int32) (bu : Int32)  : MetI l g yX4_verdictOf cX4_verdictOf 3 (some .int) 1 0 0 [.int ca, .int ot, .int bu] [] (fun r u => r = (F_X4_verdictOf ca ot bu) ∧ u = []) := by
  refine MetI.of (own := RX4) rfl (by decide) (Nat.le_of_ble_eq_true rfl) ?_
  intro p e s m below meth c A ls args Q hQ X hr hin hW hl
  have hx := X.1
  have hb := X.2.1
  have hl : lv_has ls 3 [(0, .int ca), (1, .int ot), (2, .int bu)] := hl
  refine lv_iload_n (pc := 0) hx hb dX4_verdictOf_0 rfl (lv_at hl 1 rfl) ?_
  refine lv_if_ne (tgt := 6) (pc := 1) hx hb dX4_verdictOf_1 rfl (fun c1 => ?_) (fun c1 => ?_)
  · refine lv_iload_n (pc := 6) hx hb dX4_verdictOf_6 rfl (lv_at hl 2 rfl) ?_
    refine lv_iload_n (pc := 7) hx hb dX4_verdictOf_7 rfl (lv_at hl 0 rfl) ?_
    refine c_SNi (pc := 8) (As := [.int bu, .int ca]) (rest := []) (wr := []) X hW (C_X11_has l g bu ca) vX4_55 [] [] rfl rfl rfl rfl rfl rfl hl.1 rfl (Nat.le_of_ble_eq_true rfl) ⟨Nat.le_of_ble_eq_true rfl, Nat.le_of_ble_eq_true rfl⟩ ⟨Nat.le_of_ble_eq_true rfl, Nat.le_of_ble_eq_true rfl⟩ dX4_verdictOf_8 (fun r3 u9 H locs hq hW => ?_)
    obtain ⟨rfl, rfl⟩ := hq
    have hW : WD g A s _ _ [] := hW
    refine lv_if_eq (tgt := 16) (pc := 11) hx hb dX4_verdictOf_11 rfl (fun c4 => ?_) (fun c4 => ?_)
    · refine lv_iload_n (pc := 16) hx hb dX4_verdictOf_16 rfl (lv_at hl 1 rfl) ?_
      refine lv_iload_n (pc := 17) hx hb dX4_verdictOf_17 rfl (lv_at hl 2 rfl) ?_
      refine lv_iand (pc := 18) hx hb dX4_verdictOf_18 ?_
      refine lv_if_eq (tgt := 26) (pc := 19) hx hb dX4_verdictOf_19 rfl (fun c6 => ?_) (fun c6 => ?_)
      · refine lv_iconst (v := 0) (pc := 26) hx hb dX4_verdictOf_26 (by decide) ?_
        have hF : F_X4_verdictOf ca ot bu = (0 : Int32) := show F_X4_verdictOf ca ot bu = (0 : Int32) from by rw [F_X4_verdictOf, if_neg c1, if_pos c4, if_pos c6]
        exact e_i (u := []) X hQ hr (hW) [] rfl rfl (⟨hF.symm, rfl⟩) ⟨Nat.le_of_ble_eq_true rfl, Nat.le_of_ble_eq_true rfl⟩ dX4_verdictOf_27
      · refine lv_iconst (v := 3) (pc := 22) hx hb dX4_verdictOf_22 (by decide) ?_
        refine lv_goto (tgt := 27) (pc := 23) hx hb dX4_verdictOf_23 rfl ?_
        have hF : F_X4_verdictOf ca ot bu = (3 : Int32) := show F_X4_verdictOf ca ot bu = (3 : Int32) from by rw [F_X4_verdictOf, if_neg c1, if_pos c4, if_neg c6]
        exact e_i (u := []) X hQ hr (hW) [] rfl rfl (⟨hF.symm, rfl⟩) ⟨Nat.le_of_ble_eq_true rfl, Nat.le_of_ble_eq_true rfl⟩ dX4_verdictOf_27
    · refine lv_iconst (v := 2) (pc := 14) hx hb dX4_verdictOf_14 (by decide) ?_
      have hF : F_X4_verdictOf ca ot bu = (2 : Int32) := show F_X4_verdictOf ca ot bu = (2 : Int32) from by rw [F_X4_verdictOf, if_neg c1, if_neg c4]
      exact e_i (u := []) X hQ hr (hW) [] rfl rfl (⟨hF.symm, rfl⟩) ⟨Nat.le_of_ble_eq_true rfl, Nat.le_of_ble_eq_true rfl⟩ dX4_verdictOf_15
  · refine lv_iconst (v := 1) (pc := 4) hx hb dX4_verdictOf_4 (by decide) ?_
    have hF : F_X4_verdictOf ca ot bu = (1 : Int32) := show F_X4_verdictOf ca ot bu = (1 : Int32) from by rw [F_X4_verdictOf, if_pos c1]
    exact e_i (u := []) X hQ hr (hW) [] rfl rfl (⟨hF.symm, rfl⟩) ⟨Nat.le_of_ble_eq_true rfl, Nat.le_of_ble_eq_true rfl⟩ dX4_verdictOf_5

def L1_X4_judges (pH : Nat → Int32) (pK : Nat → Int32) (pA : Nat → Int32) (pB : Nat → Int32) (oE : Nat → Int32) (K : Nat → Int32) (j1 : Nat) (x2_1 : Int32) (x1_1 : Int32) (fq5_1 : Nat → Int32) (fq6_1 : Nat → Int32) : Int32 × Int32 × (Nat → Int32) × (Nat → Int32) := if pH (tN (oE j1)) = x1_1 then (if pK (tN (oE j1)) = 3 then (if (upd fq5_1 (tN (oE j1)) (F_X4_verdictOf (nI (tN (pA (tN (oE j1))))) ((upd fq6_1 (tN (oE j1)) ((-1 : Int32) &&& (F_X10_callable K (tN (pA (tN (oE j1)))) (tN (pH (tN (oE j1))))))) (tN (oE j1))) x2_1)) (tN (oE j1)) = 0 then ((x2_1 ||| (((1 : Int32) <<< ((nI (tN (pA (tN (oE j1))))) &&& 31)) ||| ((upd fq6_1 (tN (oE j1)) ((-1 : Int32) &&& (F_X10_callable K (tN (pA (tN (oE j1)))) (tN (pH (tN (oE j1))))))) (tN (oE j1)))), x1_1, (upd fq5_1 (tN (oE j1)) (F_X4_verdictOf (nI (tN (pA (tN (oE j1))))) ((upd fq6_1 (tN (oE j1)) ((-1 : Int32) &&& (F_X10_callable K (tN (pA (tN (oE j1)))) (tN (pH (tN (oE j1))))))) (tN (oE j1))) x2_1)), (upd fq6_1 (tN (oE j1)) ((-1 : Int32) &&& (F_X10_callable K (tN (pA (tN (oE j1)))) (tN (pH (tN (oE j1))))))))) else ((x2_1, x1_1, (upd fq5_1 (tN (oE j1)) (F_X4_verdictOf (nI (tN (pA (tN (oE j1))))) ((upd fq6_1 (tN (oE j1)) ((-1 : Int32) &&& (F_X10_callable K (tN (pA (tN (oE j1)))) (tN (pH (tN (oE j1))))))) (tN (oE j1))) x2_1)), (upd fq6_1 (tN (oE j1)) ((-1 : Int32) &&& (F_X10_callable K (tN (pA (tN (oE j1)))) (tN (pH (tN (oE j1)))))))))) else (if (upd fq5_1 (tN (oE j1)) (F_X4_verdictOf (nI (tN (pA (tN (oE j1))))) ((upd fq6_1 (tN (oE j1)) (((1 : Int32) <<< ((pB (tN (oE j1))) &&& 31)) &&& (F_X10_callable K (tN (pA (tN (oE j1)))) (tN (pH (tN (oE j1))))))) (tN (oE j1))) x2_1)) (tN (oE j1)) = 0 then ((x2_1 ||| (((1 : Int32) <<< ((nI (tN (pA (tN (oE j1))))) &&& 31)) ||| ((upd fq6_1 (tN (oE j1)) (((1 : Int32) <<< ((pB (tN (oE j1))) &&& 31)) &&& (F_X10_callable K (tN (pA (tN (oE j1)))) (tN (pH (tN (oE j1))))))) (tN (oE j1)))), x1_1, (upd fq5_1 (tN (oE j1)) (F_X4_verdictOf (nI (tN (pA (tN (oE j1))))) ((upd fq6_1 (tN (oE j1)) (((1 : Int32) <<< ((pB (tN (oE j1))) &&& 31)) &&& (F_X10_callable K (tN (pA (tN (oE j1)))) (tN (pH (tN (oE j1))))))) (tN (oE j1))) x2_1)), (upd fq6_1 (tN (oE j1)) (((1 : Int32) <<< ((pB (tN (oE j1))) &&& 31)) &&& (F_X10_callable K (tN (pA (tN (oE j1)))) (tN (pH (tN (oE j1))))))))) else ((x2_1, x1_1, (upd fq5_1 (tN (oE j1)) (F_X4_verdictOf (nI (tN (pA (tN (oE j1))))) ((upd fq6_1 (tN (oE j1)) (((1 : Int32) <<< ((pB (tN (oE j1))) &&& 31)) &&& (F_X10_callable K (tN (pA (tN (oE j1)))) (tN (pH (tN (oE j1))))))) (tN (oE j1))) x2_1)), (upd fq6_1 (tN (oE j1)) (((1 : Int32) <<< ((pB (tN (oE j1))) &&& 31)) &&& (F_X10_callable K (tN (pA (tN (oE j1)))) (tN (pH (tN (oE j1))))))))))) else (if pK (tN (oE j1)) = 3 then (if (upd fq5_1 (tN (oE j1)) (F_X4_verdictOf (nI (tN (pA (tN (oE j1))))) ((upd fq6_1 (tN (oE j1)) ((-1 : Int32) &&& (F_X10_callable K (tN (pA (tN (oE j1)))) (tN (pH (tN (oE j1))))))) (tN (oE j1))) (0 : Int32))) (tN (oE j1)) = 0 then (((0 : Int32) ||| (((1 : Int32) <<< ((nI (tN (pA (tN (oE j1))))) &&& 31)) ||| ((upd fq6_1 (tN (oE j1)) ((-1 : Int32) &&& (F_X10_callable K (tN (pA (tN (oE j1)))) (tN (pH (tN (oE j1))))))) (tN (oE j1)))), pH (tN (oE j1)), (upd fq5_1 (tN (oE j1)) (F_X4_verdictOf (nI (tN (pA (tN (oE j1))))) ((upd fq6_1 (tN (oE j1)) ((-1 : Int32) &&& (F_X10_callable K (tN (pA (tN (oE j1)))) (tN (pH (tN (oE j1))))))) (tN (oE j1))) (0 : Int32))), (upd fq6_1 (tN (oE j1)) ((-1 : Int32) &&& (F_X10_callable K (tN (pA (tN (oE j1)))) (tN (pH (tN (oE j1))))))))) else (((0 : Int32), pH (tN (oE j1)), (upd fq5_1 (tN (oE j1)) (F_X4_verdictOf (nI (tN (pA (tN (oE j1))))) ((upd fq6_1 (tN (oE j1)) ((-1 : Int32) &&& (F_X10_callable K (tN (pA (tN (oE j1)))) (tN (pH (tN (oE j1))))))) (tN (oE j1))) (0 : Int32))), (upd fq6_1 (tN (oE j1)) ((-1 : Int32) &&& (F_X10_callable K (tN (pA (tN (oE j1)))) (tN (pH (tN (oE j1)))))))))) else (if (upd fq5_1 (tN (oE j1)) (F_X4_verdictOf (nI (tN (pA (tN (oE j1))))) ((upd fq6_1 (tN (oE j1)) (((1 : Int32) <<< ((pB (tN (oE j1))) &&& 31)) &&& (F_X10_callable K (tN (pA (tN (oE j1)))) (tN (pH (tN (oE j1))))))) (tN (oE j1))) (0 : Int32))) (tN (oE j1)) = 0 then (((0 : Int32) ||| (((1 : Int32) <<< ((nI (tN (pA (tN (oE j1))))) &&& 31)) ||| ((upd fq6_1 (tN (oE j1)) (((1 : Int32) <<< ((pB (tN (oE j1))) &&& 31)) &&& (F_X10_callable K (tN (pA (tN (oE j1)))) (tN (pH (tN (oE j1))))))) (tN (oE j1)))), pH (tN (oE j1)), (upd fq5_1 (tN (oE j1)) (F_X4_verdictOf (nI (tN (pA (tN (oE j1))))) ((upd fq6_1 (tN (oE j1)) (((1 : Int32) <<< ((pB (tN (oE j1))) &&& 31)) &&& (F_X10_callable K (tN (pA (tN (oE j1)))) (tN (pH (tN (oE j1))))))) (tN (oE j1))) (0 : Int32))), (upd fq6_1 (tN (oE j1)) (((1 : Int32) <<< ((pB (tN (oE j1))) &&& 31)) &&& (F_X10_callable K (tN (pA (tN (oE j1)))) (tN (pH (tN (oE j1))))))))) else (((0 : Int32), pH (tN (oE j1)), (upd fq5_1 (tN (oE j1)) (F_X4_verdictOf (nI (tN (pA (tN (oE j1))))) ((upd fq6_1 (tN (oE j1)) (((1 : Int32) <<< ((pB (tN (oE j1))) &&& 31)) &&& (F_X10_callable K (tN (pA (tN (oE j1)))) (tN (pH (tN (oE j1))))))) (tN (oE j1))) (0 : Int32))), (upd fq6_1 (tN (oE j1)) (((1 : Int32) <<< ((pB (tN (oE j1))) &&& 31)) &&& (F_X10_callable K (tN (pA (tN (oE j1)))) (tN (pH (tN (oE j1)))))))))))
def L1_X4_judge (pH : Nat → Int32) (pK : Nat → Int32) (pA : Nat → Int32) (pB : Nat → Int32) (oE : Nat → Int32) (K : Nat → Int32) (i0_ : Int32) (i1_ : Int32) (i2_ : Nat → Int32) (i3_ : Nat → Int32) : Nat → Int32 × Int32 × (Nat → Int32) × (Nat → Int32)
  | 0 => (i0_, i1_, i2_, i3_)
  | k_ + 1 => L1_X4_judges pH pK pA pB oE K k_ ((L1_X4_judge pH pK pA pB oE K i0_ i1_ i2_ i3_ k_).1) ((L1_X4_judge pH pK pA pB oE K i0_ i1_ i2_ i3_ k_).2.1) ((L1_X4_judge pH pK pA pB oE K i0_ i1_ i2_ i3_ k_).2.2.1) ((L1_X4_judge pH pK pA pB oE K i0_ i1_ i2_ i3_ k_).2.2.2)
def F_X4_judge (pc : Nat) (pH : Nat → Int32) (pK : Nat → Int32) (pA : Nat → Int32) (pB : Nat → Int32) (oE : Nat → Int32) (pW : Nat → Int32) (pR : Nat → Int32) (K : Nat → Int32) : (Nat → Int32) × (Nat → Int32) := (((L1_X4_judge pH pK pA pB oE K (0 : Int32) (0 : Int32) pW pR pc).2.2.1), ((L1_X4_judge pH pK pA pB oE K (0 : Int32) (0 : Int32) pW pR pc).2.2.2))
set_option maxHeartbeats 4000000 in
set_option maxRecDepth 100000 in
theorem K_X4_judge (l : Launch) (g : GG) (q : Nat) (q0 : Nat) (q1 : Nat) (q2 : Nat) (q3 : Nat) (q4 : Nat) (q5 : Nat) (q6 : Nat) (pc : Nat) (v : Nat) (v3 : Nat) (v4 : Nat) (v5 : Nat) (v6 : Nat) (v7 : Nat) (v8 : Nat) (v9 : Nat) (v10 : Nat) (v11 : Nat) (v12 : Nat) (v13 : Nat) (v15 : Nat) (pe : Int32) (lc : Int32) (de : Int32) (gl : Int32) (pH : Nat → Int32) (pK : Nat → Int32) (pA : Nat → Int32) (pB : Nat → Int32) (oE : Nat → Int32) (pW : Nat → Int32) (pR : Nat → Int32) (K : Nat → Int32) (hp40 : pc ≤ 40) (hoe : ∀ j : Nat, j < 40 → oE j = nI (tN (oE j)) ∧ tN (oE j) < 40) (hH : ∀ j : Nat, j < 40 → pH j = nI (tN (pH j)) ∧ tN (pH j) ≤ 24) (hCa : ∀ j : Nat, j < 40 → pA j = nI (tN (pA j)) ∧ tN (pA j) < 7) : MetV l g yX4_judge cX4_judge 7 none 2 0 0 [.ref q] [(q, .inr (4, [.ref v, .int (nI pc), .ref q0, .ref q1, .ref q2, .ref q3, .ref q4, .ref q5, .ref q6])), (q0, .inl (g.2.1 1, 40, .inl pH)), (q1, .inl (g.2.1 1, 40, .inl pK)), (q2, .inl (g.2.1 1, 40, .inl pA)), (q3, .inl (g.2.1 1, 40, .inl pB)), (q4, .inl (g.2.1 1, 40, .inl oE)), (q5, .inl (g.2.1 1, 40, .inl pW)), (q6, .inl (g.2.1 1, 40, .inl pR)), (v, .inr (10, [.int pe, .int lc, .int de, .ref v3, .ref v4, .ref v5, .ref v6, .ref v7, .ref v8, .ref v9, .ref v10, .ref v11, .ref v12, .ref v13, .int gl, .ref v15])), (v10, .inl (g.2.1 1, 175, .inl K))] (fun u => u = [(q, .inr (4, [.ref v, .int (nI pc), .ref q0, .ref q1, .ref q2, .ref q3, .ref q4, .ref q5, .ref q6])), (q0, .inl (g.2.1 1, 40, .inl pH)), (q1, .inl (g.2.1 1, 40, .inl pK)), (q2, .inl (g.2.1 1, 40, .inl pA)), (q3, .inl (g.2.1 1, 40, .inl pB)), (q4, .inl (g.2.1 1, 40, .inl oE)), (q5, .inl (g.2.1 1, 40, .inl ((F_X4_judge pc pH pK pA pB oE pW pR K).1))), (q6, .inl (g.2.1 1, 40, .inl ((F_X4_judge pc pH pK pA pB oE pW pR K).2))), (v, .inr (10, [.int pe, .int lc, .int de, .ref v3, .ref v4, .ref v5, .ref v6, .ref v7, .ref v8, .ref v9, .ref v10, .ref v11, .ref v12, .ref v13, .int gl, .ref v15])), (v10, .inl (g.2.1 1, 175, .inl K))]) := by
  refine MetV.of (own := RX4) rfl (by decide) (Nat.le_of_ble_eq_true rfl) ?_
  intro p e s m below meth c A ls args Q hQ X hr hin hW hl
  have hx := X.1
  have hb := X.2.1
  have hl : lv_has ls 7 [(0, .ref q)] := hl
  refine lv_iconst (v := 0) (pc := 0) hx hb dX4_judge_0 (by decide) ?_
  refine lv_istore_n (lv' := [(1, .int 0), (0, .ref q)]) (pc := 1) hx hb dX4_judge_1 rfl hl (by decide) rfl (fun ls hl => ?_)
  refine lv_iconst (v := 0) (pc := 2) hx hb dX4_judge_2 (by decide) ?_
  refine lv_istore_n (lv' := [(2, .int 0), (1, .int 0), (0, .ref q)]) (pc := 3) hx hb dX4_judge_3 rfl hl (by decide) rfl (fun ls hl => ?_)
  refine lv_iconst (v := 0) (pc := 4) hx hb dX4_judge_4 (by decide) ?_
  refine lv_istore_n (lv' := [(3, .int 0), (2, .int 0), (1, .int 0), (0, .ref q)]) (pc := 5) hx hb dX4_judge_5 rfl hl (by decide) rfl (fun ls hl => ?_)
  have loop1 : ∀ (fu1 : Nat) (j1 : Nat) (x2_1 : Int32) (x1_1 : Int32) (fq5_1 : Nat → Int32) (fq6_1 : Nat → Int32), (pc < fu1 + j1) → (j1 ≤ pc) → ((x2_1, x1_1, fq5_1, fq6_1) = L1_X4_judge pH pK pA pB oE K (0 : Int32) (0 : Int32) pW pR j1) → ∀ (H : Heap) (locs : List Loc) (ls : Array Slot), WD g A s H locs [(q, .inr (4, [.ref v, .int (nI pc), .ref q0, .ref q1, .ref q2, .ref q3, .ref q4, .ref q5, .ref q6])), (q0, .inl (g.2.1 1, 40, .inl pH)), (q1, .inl (g.2.1 1, 40, .inl pK)), (q2, .inl (g.2.1 1, 40, .inl pA)), (q3, .inl (g.2.1 1, 40, .inl pB)), (q4, .inl (g.2.1 1, 40, .inl oE)), (q5, .inl (g.2.1 1, 40, .inl fq5_1)), (q6, .inl (g.2.1 1, 40, .inl fq6_1)), (v, .inr (10, [.int pe, .int lc, .int de, .ref v3, .ref v4, .ref v5, .ref v6, .ref v7, .ref v8, .ref v9, .ref v10, .ref v11, .ref v12, .ref v13, .int gl, .ref v15])), (v10, .inl (g.2.1 1, 175, .inl K))] → lv_has ls 7 [(3, .int (nI j1)), (2, .int x2_1), (1, .int x1_1), (0, .ref q)] → W p l e (RM 2 0 0) s m args below meth c H locs 0 0 Q (F0 m 6 ls []) := by
    intro fu1
    induction fu1 with
    | zero =>
      intro j1 x2_1 x1_1 fq5_1 fq6_1 hm1 hj1 hst1
      exact absurd hm1 (by omega)
    | succ fu1 ih1 =>
      intro j1 x2_1 x1_1 fq5_1 fq6_1 hm1 hj1 hst1 H locs ls hW hl
      refine lv_iload_n (pc := 6) hx hb dX4_judge_6 rfl (lv_at hl 0 rfl) ?_
      refine lv_aload_n (pc := 7) hx hb dX4_judge_7 rfl (lv_at hl 3 rfl) ?_
      refine r_get X hW 0 ciX4 1 rfl (by decide) m_569 rfl rfl dX4_judge_8 ?_
      refine lv_icmp_ge (tgt := 149) (pc := 11) hx hb dX4_judge_11 rfl (fun c1 => ?_) (fun c1 => ?_)
      · have h2 : pc ≤ j1 := (nI_leI (a := pc) (b := j1) (by omega) (by omega)).mp c1
        have hN1 : j1 = pc := by omega
        rw [hN1] at hst1
        have hs1_0 : x2_1 = (L1_X4_judge pH pK pA pB oE K (0 : Int32) (0 : Int32) pW pR pc).1 := congrArg (fun z => z.1) hst1
        have hs1_1 : x1_1 = (L1_X4_judge pH pK pA pB oE K (0 : Int32) (0 : Int32) pW pR pc).2.1 := congrArg (fun z => z.2.1) hst1
        have hs1_2 : fq5_1 = (L1_X4_judge pH pK pA pB oE K (0 : Int32) (0 : Int32) pW pR pc).2.2.1 := congrArg (fun z => z.2.2.1) hst1
        have hs1_3 : fq6_1 = (L1_X4_judge pH pK pA pB oE K (0 : Int32) (0 : Int32) pW pR pc).2.2.2 := congrArg (fun z => z.2.2.2) hst1
        clear hst1
        subst hs1_0
        subst hs1_1
        subst hs1_2
        subst hs1_3
        have hW : WD g A s _ _ [(q, .inr (4, [.ref v, .int (nI pc), .ref q0, .ref q1, .ref q2, .ref q3, .ref q4, .ref q5, .ref q6])), (q0, .inl (g.2.1 1, 40, .inl pH)), (q1, .inl (g.2.1 1, 40, .inl pK)), (q2, .inl (g.2.1 1, 40, .inl pA)), (q3, .inl (g.2.1 1, 40, .inl pB)), (q4, .inl (g.2.1 1, 40, .inl oE)), (q5, .inl (g.2.1 1, 40, .inl ((L1_X4_judge pH pK pA pB oE K (0 : Int32) (0 : Int32) pW pR pc).2.2.1))), (q6, .inl (g.2.1 1, 40, .inl ((L1_X4_judge pH pK pA pB oE K (0 : Int32) (0 : Int32) pW pR pc).2.2.2))), (v, .inr (10, [.int pe, .int lc, .int de, .ref v3, .ref v4, .ref v5, .ref v6, .ref v7, .ref v8, .ref v9, .ref v10, .ref v11, .ref v12, .ref v13, .int gl, .ref v15])), (v10, .inl (g.2.1 1, 175, .inl K))] := hW
        have hF : F_X4_judge pc pH pK pA pB oE pW pR K = (((L1_X4_judge pH pK pA pB oE K (0 : Int32) (0 : Int32) pW pR pc).2.2.1), ((L1_X4_judge pH pK pA pB oE K (0 : Int32) (0 : Int32) pW pR pc).2.2.2)) := show F_X4_judge pc pH pK pA pB oE pW pR K = (((L1_X4_judge pH pK pA pB oE K (0 : Int32) (0 : Int32) pW pR pc).2.2.1), ((L1_X4_judge pH pK pA pB oE K (0 : Int32) (0 : Int32) pW pR pc).2.2.2)) from rfl
        exact e_v (u := [(q, .inr (4, [.ref v, .int (nI pc), .ref q0, .ref q1, .ref q2, .ref q3, .ref q4, .ref q5, .ref q6])), (q0, .inl (g.2.1 1, 40, .inl pH)), (q1, .inl (g.2.1 1, 40, .inl pK)), (q2, .inl (g.2.1 1, 40, .inl pA)), (q3, .inl (g.2.1 1, 40, .inl pB)), (q4, .inl (g.2.1 1, 40, .inl oE)), (q5, .inl (g.2.1 1, 40, .inl ((L1_X4_judge pH pK pA pB oE K (0 : Int32) (0 : Int32) pW pR pc).2.2.1))), (q6, .inl (g.2.1 1, 40, .inl ((L1_X4_judge pH pK pA pB oE K (0 : Int32) (0 : Int32) pW pR pc).2.2.2))), (v, .inr (10, [.int pe, .int lc, .int de, .ref v3, .ref v4, .ref v5, .ref v6, .ref v7, .ref v8, .ref v9, .ref v10, .ref v11, .ref v12, .ref v13, .int gl, .ref v15])), (v10, .inl (g.2.1 1, 175, .inl K))]) X hQ hr (hW) [0, 1, 2, 3, 4, 5, 6, 7, 8, 9] rfl rfl (by rw [hF]) ⟨Nat.le_of_ble_eq_true rfl, Nat.le_of_ble_eq_true rfl⟩ dX4_judge_149
      · have h3 : ¬ (pc ≤ j1) := fun q => c1 ((nI_leI (a := pc) (b := j1) (by omega) (by omega)).mpr q)
        refine lv_aload_n (pc := 14) hx hb dX4_judge_14 rfl (lv_at hl 3 rfl) ?_
        refine r_get X hW 0 ciX4 6 rfl (by decide) m_580 rfl rfl dX4_judge_15 ?_
        refine lv_iload_n (pc := 18) hx hb dX4_judge_18 rfl (lv_at hl 0 rfl) ?_
        refine r_iald X hW 5 rfl (vp_in_nI (by omega) (by decide)) dX4_judge_19 ?_
        refine lv_topi (fun v4 ev4 => ?_)
        obtain rfl : v4 = oE j1 := ev4.trans (by rw [nI_clamp (by omega)])
        have hoj := hoe j1 (by omega)
        rw [hoj.1]
        have hoj2 := hoj.2
        have hHj := hH (tN (oE j1)) hoj2
        have hCj := hCa (tN (oE j1)) hoj2
        have hHj2 := hHj.2
        have hCj2 := hCj.2
        refine lv_istore (lv' := [(4, .int (nI (tN (oE j1)))), (3, .int (nI j1)), (2, .int x2_1), (1, .int x1_1), (0, .ref q)]) (pc := 20) hx hb dX4_judge_20 hl (by decide) rfl (fun ls hl => ?_)
        refine lv_aload_n (pc := 22) hx hb dX4_judge_22 rfl (lv_at hl 4 rfl) ?_
        refine r_get X hW 0 ciX4 2 rfl (by decide) m_572 rfl rfl dX4_judge_23 ?_
        refine lv_iload (pc := 26) hx hb dX4_judge_26 (lv_at hl 0 rfl) ?_
        refine r_iald X hW 1 rfl (vp_in_nI (by omega) (by decide)) dX4_judge_28 ?_
        refine lv_topi (fun v5 ev5 => ?_)
        obtain rfl : v5 = pH (tN (oE j1)) := ev5.trans (by rw [nI_clamp (by omega)])
        refine lv_iload_n (pc := 29) hx hb dX4_judge_29 rfl (lv_at hl 3 rfl) ?_
        refine lv_icmp_eq (tgt := 43) (pc := 30) hx hb dX4_judge_30 rfl (fun c6 => ?_) (fun c6 => ?_)
        · refine lv_aload_n (pc := 43) hx hb dX4_judge_43 rfl (lv_at hl 4 rfl) ?_
          refine r_get X hW 0 ciX4 4 rfl (by decide) m_576 rfl rfl dX4_judge_44 ?_
          refine lv_iload (pc := 47) hx hb dX4_judge_47 (lv_at hl 0 rfl) ?_
          refine r_iald X hW 3 rfl (vp_in_nI (by omega) (by decide)) dX4_judge_49 ?_
          refine lv_topi (fun v8 ev8 => ?_)
          obtain rfl : v8 = pA (tN (oE j1)) := ev8.trans (by rw [nI_clamp (by omega)])
          rw [hCj.1]
          refine lv_istore (lv' := [(5, .int (nI (tN (pA (tN (oE j1)))))), (4, .int (nI (tN (oE j1)))), (3, .int (nI j1)), (2, .int x2_1), (1, .int x1_1), (0, .ref q)]) (pc := 50) hx hb dX4_judge_50 hl (by decide) rfl (fun ls hl => ?_)
          refine lv_aload_n (pc := 52) hx hb dX4_judge_52 rfl (lv_at hl 5 rfl) ?_
          refine r_get X hW 0 ciX4 3 rfl (by decide) m_574 rfl rfl dX4_judge_53 ?_
          refine lv_iload (pc := 56) hx hb dX4_judge_56 (lv_at hl 1 rfl) ?_
          refine r_iald X hW 2 rfl (vp_in_nI (by omega) (by decide)) dX4_judge_58 ?_
          refine lv_topi (fun v9 ev9 => ?_)
          obtain rfl : v9 = pK (tN (oE j1)) := ev9.trans (by rw [nI_clamp (by omega)])
          refine lv_iconst (v := 3) (pc := 59) hx hb dX4_judge_59 (by decide) ?_
          refine lv_icmp_ne (tgt := 67) (pc := 60) hx hb dX4_judge_60 rfl (fun c10 => ?_) (fun c10 => ?_)
          · refine lv_iconst (v := 1) (pc := 67) hx hb dX4_judge_67 (by decide) ?_
            refine lv_aload_n (pc := 68) hx hb dX4_judge_68 rfl (lv_at hl 5 rfl) ?_
            refine r_get X hW 0 ciX4 5 rfl (by decide) m_578 rfl rfl dX4_judge_69 ?_
            refine lv_iload (pc := 72) hx hb dX4_judge_72 (lv_at hl 1 rfl) ?_
            refine r_iald X hW 4 rfl (vp_in_nI (by omega) (by decide)) dX4_judge_74 ?_
            refine lv_topi (fun v12 ev12 => ?_)
            obtain rfl : v12 = pB (tN (oE j1)) := ev12.trans (by rw [nI_clamp (by omega)])
            refine lv_ishl (pc := 75) hx hb dX4_judge_75 ?_
            refine lv_istore (lv' := [(6, .int ((1 : Int32) <<< ((pB (tN (oE j1))) &&& 31))), (5, .int (nI (tN (pA (tN (oE j1)))))), (4, .int (nI (tN (oE j1)))), (3, .int (nI j1)), (2, .int x2_1), (1, .int x1_1), (0, .ref q)]) (pc := 76) hx hb dX4_judge_76 hl (by decide) rfl (fun ls hl => ?_)
            refine lv_aload_n (pc := 78) hx hb dX4_judge_78 rfl (lv_at hl 6 rfl) ?_
            refine r_get X hW 0 ciX4 8 rfl (by decide) m_585 rfl rfl dX4_judge_79 ?_
            refine lv_iload (pc := 82) hx hb dX4_judge_82 (lv_at hl 2 rfl) ?_
            refine lv_iload (pc := 84) hx hb dX4_judge_84 (lv_at hl 0 rfl) ?_
            refine lv_aload_n (pc := 86) hx hb dX4_judge_86 rfl (lv_at hl 6 rfl) ?_
            refine r_get X hW 0 ciX4 0 rfl (by decide) m_566 rfl rfl dX4_judge_87 ?_
            refine lv_iload (pc := 90) hx hb dX4_judge_90 (lv_at hl 1 rfl) ?_
            refine lv_iload_n (pc := 92) hx hb dX4_judge_92 rfl (lv_at hl 5 rfl) ?_
            rw [show x1_1 = nI (tN (pH (tN (oE j1)))) from c6.symm.trans hHj.1]
            refine c_Vi (pc := 93) (As := [.int (nI (tN (pA (tN (oE j1))))), .int (nI (tN (pH (tN (oE j1)))))]) (rest := [.int ((1 : Int32) <<< ((pB (tN (oE j1))) &&& 31)), .int (nI (tN (oE j1))), .ref q6]) (wr := [(q, .inr (4, [.ref v, .int (nI pc), .ref q0, .ref q1, .ref q2, .ref q3, .ref q4, .ref q5, .ref q6])), (q0, .inl (g.2.1 1, 40, .inl pH)), (q1, .inl (g.2.1 1, 40, .inl pK)), (q2, .inl (g.2.1 1, 40, .inl pA)), (q3, .inl (g.2.1 1, 40, .inl pB)), (q4, .inl (g.2.1 1, 40, .inl oE)), (q5, .inl (g.2.1 1, 40, .inl fq5_1)), (q6, .inl (g.2.1 1, 40, .inl fq6_1))]) X hW 8 ciX10 rfl (K_X10_callable l g v v3 v4 v5 v6 v7 v8 v9 v10 v11 v12 v13 v15 pe lc de gl K (tN (pA (tN (oE j1)))) (tN (pH (tN (oE j1)))) (by omega) (by omega)) vX4_45 [8, 9] [0, 1, 2, 3, 4, 5, 6, 7] rfl rfl rfl rfl rfl rfl hl.1 rfl (Nat.le_of_ble_eq_true rfl) ⟨Nat.le_of_ble_eq_true rfl, Nat.le_of_ble_eq_true rfl⟩ ⟨Nat.le_of_ble_eq_true rfl, Nat.le_of_ble_eq_true rfl⟩ dX4_judge_93 (fun r13 u9 H locs hq hW => ?_)
            obtain ⟨rfl, rfl⟩ := hq
            have hW : WD g A s _ _ [(q, .inr (4, [.ref v, .int (nI pc), .ref q0, .ref q1, .ref q2, .ref q3, .ref q4, .ref q5, .ref q6])), (q0, .inl (g.2.1 1, 40, .inl pH)), (q1, .inl (g.2.1 1, 40, .inl pK)), (q2, .inl (g.2.1 1, 40, .inl pA)), (q3, .inl (g.2.1 1, 40, .inl pB)), (q4, .inl (g.2.1 1, 40, .inl oE)), (q5, .inl (g.2.1 1, 40, .inl fq5_1)), (q6, .inl (g.2.1 1, 40, .inl fq6_1)), (v, .inr (10, [.int pe, .int lc, .int de, .ref v3, .ref v4, .ref v5, .ref v6, .ref v7, .ref v8, .ref v9, .ref v10, .ref v11, .ref v12, .ref v13, .int gl, .ref v15])), (v10, .inl (g.2.1 1, 175, .inl K))] := hW
            refine lv_iand (pc := 96) hx hb dX4_judge_96 ?_
            refine r_iast (ws' := [(q, .inr (4, [.ref v, .int (nI pc), .ref q0, .ref q1, .ref q2, .ref q3, .ref q4, .ref q5, .ref q6])), (q0, .inl (g.2.1 1, 40, .inl pH)), (q1, .inl (g.2.1 1, 40, .inl pK)), (q2, .inl (g.2.1 1, 40, .inl pA)), (q3, .inl (g.2.1 1, 40, .inl pB)), (q4, .inl (g.2.1 1, 40, .inl oE)), (q5, .inl (g.2.1 1, 40, .inl fq5_1)), (q6, .inl (g.2.1 1, 40, .inl (upd fq6_1 (tN (oE j1)) (((1 : Int32) <<< ((pB (tN (oE j1))) &&& 31)) &&& (F_X10_callable K (tN (pA (tN (oE j1)))) (tN (pH (tN (oE j1))))))))), (v, .inr (10, [.int pe, .int lc, .int de, .ref v3, .ref v4, .ref v5, .ref v6, .ref v7, .ref v8, .ref v9, .ref v10, .ref v11, .ref v12, .ref v13, .int gl, .ref v15])), (v10, .inl (g.2.1 1, 175, .inl K))]) X hW 7 rfl (vp_in_nI (by omega) (by decide)) (f' := (upd fq6_1 (tN (oE j1)) (((1 : Int32) <<< ((pB (tN (oE j1))) &&& 31)) &&& (F_X10_callable K (tN (pA (tN (oE j1)))) (tN (pH (tN (oE j1)))))))) (by rw [nI_clamp (by omega)]) rfl dX4_judge_97 (fun H locs hW => ?_)
            refine lv_aload_n (pc := 98) hx hb dX4_judge_98 rfl (lv_at hl 6 rfl) ?_
            refine r_get X hW 0 ciX4 7 rfl (by decide) m_582 rfl rfl dX4_judge_99 ?_
            refine lv_iload (pc := 102) hx hb dX4_judge_102 (lv_at hl 2 rfl) ?_
            refine lv_iload (pc := 104) hx hb dX4_judge_104 (lv_at hl 1 rfl) ?_
            refine lv_aload_n (pc := 106) hx hb dX4_judge_106 rfl (lv_at hl 6 rfl) ?_
            refine r_get X hW 0 ciX4 8 rfl (by decide) m_585 rfl rfl dX4_judge_107 ?_
            refine lv_iload (pc := 110) hx hb dX4_judge_110 (lv_at hl 2 rfl) ?_
            refine r_iald X hW 7 rfl (vp_in_nI (by omega) (by decide)) dX4_judge_112 ?_
            refine lv_topi (fun v14 ev14 => ?_)
            obtain rfl : v14 = (upd fq6_1 (tN (oE j1)) (((1 : Int32) <<< ((pB (tN (oE j1))) &&& 31)) &&& (F_X10_callable K (tN (pA (tN (oE j1)))) (tN (pH (tN (oE j1))))))) (tN (oE j1)) := ev14.trans (by rw [nI_clamp (by omega)])
            refine lv_iload_n (pc := 113) hx hb dX4_judge_113 rfl (lv_at hl 4 rfl) ?_
            refine c_Si (pc := 114) (As := [.int (nI (tN (pA (tN (oE j1))))), .int ((upd fq6_1 (tN (oE j1)) (((1 : Int32) <<< ((pB (tN (oE j1))) &&& 31)) &&& (F_X10_callable K (tN (pA (tN (oE j1)))) (tN (pH (tN (oE j1))))))) (tN (oE j1))), .int x2_1]) (rest := [.int (nI (tN (oE j1))), .ref q5]) (wr := [(q, .inr (4, [.ref v, .int (nI pc), .ref q0, .ref q1, .ref q2, .ref q3, .ref q4, .ref q5, .ref q6])), (q0, .inl (g.2.1 1, 40, .inl pH)), (q1, .inl (g.2.1 1, 40, .inl pK)), (q2, .inl (g.2.1 1, 40, .inl pA)), (q3, .inl (g.2.1 1, 40, .inl pB)), (q4, .inl (g.2.1 1, 40, .inl oE)), (q5, .inl (g.2.1 1, 40, .inl fq5_1)), (q6, .inl (g.2.1 1, 40, .inl (upd fq6_1 (tN (oE j1)) (((1 : Int32) <<< ((pB (tN (oE j1))) &&& 31)) &&& (F_X10_callable K (tN (pA (tN (oE j1)))) (tN (pH (tN (oE j1))))))))), (v, .inr (10, [.int pe, .int lc, .int de, .ref v3, .ref v4, .ref v5, .ref v6, .ref v7, .ref v8, .ref v9, .ref v10, .ref v11, .ref v12, .ref v13, .int gl, .ref v15])), (v10, .inl (g.2.1 1, 175, .inl K))]) X hW (K_X4_verdictOf l g (nI (tN (pA (tN (oE j1))))) ((upd fq6_1 (tN (oE j1)) (((1 : Int32) <<< ((pB (tN (oE j1))) &&& 31)) &&& (F_X10_callable K (tN (pA (tN (oE j1)))) (tN (pH (tN (oE j1))))))) (tN (oE j1))) x2_1) vX4_51 [] [0, 1, 2, 3, 4, 5, 6, 7, 8, 9] rfl rfl rfl rfl rfl rfl hl.1 rfl (Nat.le_of_ble_eq_true rfl) ⟨Nat.le_of_ble_eq_true rfl, Nat.le_of_ble_eq_true rfl⟩ ⟨Nat.le_of_ble_eq_true rfl, Nat.le_of_ble_eq_true rfl⟩ dX4_judge_114 (fun r15 u9 H locs hq hW => ?_)
            obtain ⟨rfl, rfl⟩ := hq
            have hW : WD g A s _ _ [(q, .inr (4, [.ref v, .int (nI pc), .ref q0, .ref q1, .ref q2, .ref q3, .ref q4, .ref q5, .ref q6])), (q0, .inl (g.2.1 1, 40, .inl pH)), (q1, .inl (g.2.1 1, 40, .inl pK)), (q2, .inl (g.2.1 1, 40, .inl pA)), (q3, .inl (g.2.1 1, 40, .inl pB)), (q4, .inl (g.2.1 1, 40, .inl oE)), (q5, .inl (g.2.1 1, 40, .inl fq5_1)), (q6, .inl (g.2.1 1, 40, .inl (upd fq6_1 (tN (oE j1)) (((1 : Int32) <<< ((pB (tN (oE j1))) &&& 31)) &&& (F_X10_callable K (tN (pA (tN (oE j1)))) (tN (pH (tN (oE j1))))))))), (v, .inr (10, [.int pe, .int lc, .int de, .ref v3, .ref v4, .ref v5, .ref v6, .ref v7, .ref v8, .ref v9, .ref v10, .ref v11, .ref v12, .ref v13, .int gl, .ref v15])), (v10, .inl (g.2.1 1, 175, .inl K))] := hW
            refine r_iast (ws' := [(q, .inr (4, [.ref v, .int (nI pc), .ref q0, .ref q1, .ref q2, .ref q3, .ref q4, .ref q5, .ref q6])), (q0, .inl (g.2.1 1, 40, .inl pH)), (q1, .inl (g.2.1 1, 40, .inl pK)), (q2, .inl (g.2.1 1, 40, .inl pA)), (q3, .inl (g.2.1 1, 40, .inl pB)), (q4, .inl (g.2.1 1, 40, .inl oE)), (q5, .inl (g.2.1 1, 40, .inl (upd fq5_1 (tN (oE j1)) (F_X4_verdictOf (nI (tN (pA (tN (oE j1))))) ((upd fq6_1 (tN (oE j1)) (((1 : Int32) <<< ((pB (tN (oE j1))) &&& 31)) &&& (F_X10_callable K (tN (pA (tN (oE j1)))) (tN (pH (tN (oE j1))))))) (tN (oE j1))) x2_1)))), (q6, .inl (g.2.1 1, 40, .inl (upd fq6_1 (tN (oE j1)) (((1 : Int32) <<< ((pB (tN (oE j1))) &&& 31)) &&& (F_X10_callable K (tN (pA (tN (oE j1)))) (tN (pH (tN (oE j1))))))))), (v, .inr (10, [.int pe, .int lc, .int de, .ref v3, .ref v4, .ref v5, .ref v6, .ref v7, .ref v8, .ref v9, .ref v10, .ref v11, .ref v12, .ref v13, .int gl, .ref v15])), (v10, .inl (g.2.1 1, 175, .inl K))]) X hW 6 rfl (vp_in_nI (by omega) (by decide)) (f' := (upd fq5_1 (tN (oE j1)) (F_X4_verdictOf (nI (tN (pA (tN (oE j1))))) ((upd fq6_1 (tN (oE j1)) (((1 : Int32) <<< ((pB (tN (oE j1))) &&& 31)) &&& (F_X10_callable K (tN (pA (tN (oE j1)))) (tN (pH (tN (oE j1))))))) (tN (oE j1))) x2_1))) (by rw [nI_clamp (by omega)]) rfl dX4_judge_117 (fun H locs hW => ?_)
            refine lv_aload_n (pc := 118) hx hb dX4_judge_118 rfl (lv_at hl 6 rfl) ?_
            refine r_get X hW 0 ciX4 7 rfl (by decide) m_582 rfl rfl dX4_judge_119 ?_
            refine lv_iload (pc := 122) hx hb dX4_judge_122 (lv_at hl 2 rfl) ?_
            refine r_iald X hW 6 rfl (vp_in_nI (by omega) (by decide)) dX4_judge_124 ?_
            refine lv_topi (fun v16 ev16 => ?_)
            obtain rfl : v16 = (upd fq5_1 (tN (oE j1)) (F_X4_verdictOf (nI (tN (pA (tN (oE j1))))) ((upd fq6_1 (tN (oE j1)) (((1 : Int32) <<< ((pB (tN (oE j1))) &&& 31)) &&& (F_X10_callable K (tN (pA (tN (oE j1)))) (tN (pH (tN (oE j1))))))) (tN (oE j1))) x2_1)) (tN (oE j1)) := ev16.trans (by rw [nI_clamp (by omega)])
            refine lv_if_ne (tgt := 143) (pc := 125) hx hb dX4_judge_125 rfl (fun c17 => ?_) (fun c17 => ?_)
            · refine lv_iinc (v := nI (j1 + 1)) (lv' := [(3, .int (nI (j1 + 1))), (6, .int ((1 : Int32) <<< ((pB (tN (oE j1))) &&& 31))), (5, .int (nI (tN (pA (tN (oE j1)))))), (4, .int (nI (tN (oE j1)))), (2, .int x2_1), (1, .int x1_1), (0, .ref q)]) (pc := 143) hx hb dX4_judge_143 hl (k := 3) rfl (nI_add j1 1) (by decide) rfl (fun ls hl => ?_)
              refine lv_goto (tgt := 6) (pc := 146) hx hb dX4_judge_146 rfl ?_
              exact ih1 (j1 + 1) x2_1 x1_1 (upd fq5_1 (tN (oE j1)) (F_X4_verdictOf (nI (tN (pA (tN (oE j1))))) ((upd fq6_1 (tN (oE j1)) (((1 : Int32) <<< ((pB (tN (oE j1))) &&& 31)) &&& (F_X10_callable K (tN (pA (tN (oE j1)))) (tN (pH (tN (oE j1))))))) (tN (oE j1))) x2_1)) (upd fq6_1 (tN (oE j1)) (((1 : Int32) <<< ((pB (tN (oE j1))) &&& 31)) &&& (F_X10_callable K (tN (pA (tN (oE j1)))) (tN (pH (tN (oE j1))))))) (by omega) (by omega) (by rw [L1_X4_judge, ← hst1]; exact (show L1_X4_judges pH pK pA pB oE K j1 x2_1 x1_1 fq5_1 fq6_1 = (x2_1, x1_1, (upd fq5_1 (tN (oE j1)) (F_X4_verdictOf (nI (tN (pA (tN (oE j1))))) ((upd fq6_1 (tN (oE j1)) (((1 : Int32) <<< ((pB (tN (oE j1))) &&& 31)) &&& (F_X10_callable K (tN (pA (tN (oE j1)))) (tN (pH (tN (oE j1))))))) (tN (oE j1))) x2_1)), (upd fq6_1 (tN (oE j1)) (((1 : Int32) <<< ((pB (tN (oE j1))) &&& 31)) &&& (F_X10_callable K (tN (pA (tN (oE j1)))) (tN (pH (tN (oE j1)))))))) from by rw [L1_X4_judges, if_pos c6, if_neg c10, if_neg c17]).symm) _ _ _ hW (lv_sub hl [0, 4, 5, 6] rfl)
            · refine lv_iload_n (pc := 128) hx hb dX4_judge_128 rfl (lv_at hl 4 rfl) ?_
              refine lv_iconst (v := 1) (pc := 129) hx hb dX4_judge_129 (by decide) ?_
              refine lv_iload (pc := 130) hx hb dX4_judge_130 (lv_at hl 1 rfl) ?_
              refine lv_ishl (pc := 132) hx hb dX4_judge_132 ?_
              refine lv_aload_n (pc := 133) hx hb dX4_judge_133 rfl (lv_at hl 6 rfl) ?_
              refine r_get X hW 0 ciX4 8 rfl (by decide) m_585 rfl rfl dX4_judge_134 ?_
              refine lv_iload (pc := 137) hx hb dX4_judge_137 (lv_at hl 2 rfl) ?_
              refine r_iald X hW 7 rfl (vp_in_nI (by omega) (by decide)) dX4_judge_139 ?_
              refine lv_topi (fun v20 ev20 => ?_)
              obtain rfl : v20 = (upd fq6_1 (tN (oE j1)) (((1 : Int32) <<< ((pB (tN (oE j1))) &&& 31)) &&& (F_X10_callable K (tN (pA (tN (oE j1)))) (tN (pH (tN (oE j1))))))) (tN (oE j1)) := ev20.trans (by rw [nI_clamp (by omega)])
              refine lv_ior (pc := 140) hx hb dX4_judge_140 ?_
              refine lv_ior (pc := 141) hx hb dX4_judge_141 ?_
              refine lv_istore_n (lv' := [(2, .int (x2_1 ||| (((1 : Int32) <<< ((nI (tN (pA (tN (oE j1))))) &&& 31)) ||| ((upd fq6_1 (tN (oE j1)) (((1 : Int32) <<< ((pB (tN (oE j1))) &&& 31)) &&& (F_X10_callable K (tN (pA (tN (oE j1)))) (tN (pH (tN (oE j1))))))) (tN (oE j1)))))), (6, .int ((1 : Int32) <<< ((pB (tN (oE j1))) &&& 31))), (5, .int (nI (tN (pA (tN (oE j1)))))), (4, .int (nI (tN (oE j1)))), (3, .int (nI j1)), (1, .int x1_1), (0, .ref q)]) (pc := 142) hx hb dX4_judge_142 rfl hl (by decide) rfl (fun ls hl => ?_)
              refine lv_iinc (v := nI (j1 + 1)) (lv' := [(3, .int (nI (j1 + 1))), (2, .int (x2_1 ||| (((1 : Int32) <<< ((nI (tN (pA (tN (oE j1))))) &&& 31)) ||| ((upd fq6_1 (tN (oE j1)) (((1 : Int32) <<< ((pB (tN (oE j1))) &&& 31)) &&& (F_X10_callable K (tN (pA (tN (oE j1)))) (tN (pH (tN (oE j1))))))) (tN (oE j1)))))), (6, .int ((1 : Int32) <<< ((pB (tN (oE j1))) &&& 31))), (5, .int (nI (tN (pA (tN (oE j1)))))), (4, .int (nI (tN (oE j1)))), (1, .int x1_1), (0, .ref q)]) (pc := 143) hx hb dX4_judge_143 hl (k := 4) rfl (nI_add j1 1) (by decide) rfl (fun ls hl => ?_)
              refine lv_goto (tgt := 6) (pc := 146) hx hb dX4_judge_146 rfl ?_
              exact ih1 (j1 + 1) (x2_1 ||| (((1 : Int32) <<< ((nI (tN (pA (tN (oE j1))))) &&& 31)) ||| ((upd fq6_1 (tN (oE j1)) (((1 : Int32) <<< ((pB (tN (oE j1))) &&& 31)) &&& (F_X10_callable K (tN (pA (tN (oE j1)))) (tN (pH (tN (oE j1))))))) (tN (oE j1))))) x1_1 (upd fq5_1 (tN (oE j1)) (F_X4_verdictOf (nI (tN (pA (tN (oE j1))))) ((upd fq6_1 (tN (oE j1)) (((1 : Int32) <<< ((pB (tN (oE j1))) &&& 31)) &&& (F_X10_callable K (tN (pA (tN (oE j1)))) (tN (pH (tN (oE j1))))))) (tN (oE j1))) x2_1)) (upd fq6_1 (tN (oE j1)) (((1 : Int32) <<< ((pB (tN (oE j1))) &&& 31)) &&& (F_X10_callable K (tN (pA (tN (oE j1)))) (tN (pH (tN (oE j1))))))) (by omega) (by omega) (by rw [L1_X4_judge, ← hst1]; exact (show L1_X4_judges pH pK pA pB oE K j1 x2_1 x1_1 fq5_1 fq6_1 = (x2_1 ||| (((1 : Int32) <<< ((nI (tN (pA (tN (oE j1))))) &&& 31)) ||| ((upd fq6_1 (tN (oE j1)) (((1 : Int32) <<< ((pB (tN (oE j1))) &&& 31)) &&& (F_X10_callable K (tN (pA (tN (oE j1)))) (tN (pH (tN (oE j1))))))) (tN (oE j1)))), x1_1, (upd fq5_1 (tN (oE j1)) (F_X4_verdictOf (nI (tN (pA (tN (oE j1))))) ((upd fq6_1 (tN (oE j1)) (((1 : Int32) <<< ((pB (tN (oE j1))) &&& 31)) &&& (F_X10_callable K (tN (pA (tN (oE j1)))) (tN (pH (tN (oE j1))))))) (tN (oE j1))) x2_1)), (upd fq6_1 (tN (oE j1)) (((1 : Int32) <<< ((pB (tN (oE j1))) &&& 31)) &&& (F_X10_callable K (tN (pA (tN (oE j1)))) (tN (pH (tN (oE j1)))))))) from by rw [L1_X4_judges, if_pos c6, if_neg c10, if_pos c17]).symm) _ _ _ hW (lv_sub hl [0, 1, 5, 6] rfl)
          · refine lv_iconst (v := (-1)) (pc := 63) hx hb dX4_judge_63 (by decide) ?_
            refine lv_goto (tgt := 76) (pc := 64) hx hb dX4_judge_64 rfl ?_
            refine lv_istore (lv' := [(6, .int (-1)), (5, .int (nI (tN (pA (tN (oE j1)))))), (4, .int (nI (tN (oE j1)))), (3, .int (nI j1)), (2, .int x2_1), (1, .int x1_1), (0, .ref q)]) (pc := 76) hx hb dX4_judge_76 hl (by decide) rfl (fun ls hl => ?_)
            refine lv_aload_n (pc := 78) hx hb dX4_judge_78 rfl (lv_at hl 6 rfl) ?_
            refine r_get X hW 0 ciX4 8 rfl (by decide) m_585 rfl rfl dX4_judge_79 ?_
            refine lv_iload (pc := 82) hx hb dX4_judge_82 (lv_at hl 2 rfl) ?_
            refine lv_iload (pc := 84) hx hb dX4_judge_84 (lv_at hl 0 rfl) ?_
            refine lv_aload_n (pc := 86) hx hb dX4_judge_86 rfl (lv_at hl 6 rfl) ?_
            refine r_get X hW 0 ciX4 0 rfl (by decide) m_566 rfl rfl dX4_judge_87 ?_
            refine lv_iload (pc := 90) hx hb dX4_judge_90 (lv_at hl 1 rfl) ?_
            refine lv_iload_n (pc := 92) hx hb dX4_judge_92 rfl (lv_at hl 5 rfl) ?_
            rw [show x1_1 = nI (tN (pH (tN (oE j1)))) from c6.symm.trans hHj.1]
            refine c_Vi (pc := 93) (As := [.int (nI (tN (pA (tN (oE j1))))), .int (nI (tN (pH (tN (oE j1)))))]) (rest := [.int (-1), .int (nI (tN (oE j1))), .ref q6]) (wr := [(q, .inr (4, [.ref v, .int (nI pc), .ref q0, .ref q1, .ref q2, .ref q3, .ref q4, .ref q5, .ref q6])), (q0, .inl (g.2.1 1, 40, .inl pH)), (q1, .inl (g.2.1 1, 40, .inl pK)), (q2, .inl (g.2.1 1, 40, .inl pA)), (q3, .inl (g.2.1 1, 40, .inl pB)), (q4, .inl (g.2.1 1, 40, .inl oE)), (q5, .inl (g.2.1 1, 40, .inl fq5_1)), (q6, .inl (g.2.1 1, 40, .inl fq6_1))]) X hW 8 ciX10 rfl (K_X10_callable l g v v3 v4 v5 v6 v7 v8 v9 v10 v11 v12 v13 v15 pe lc de gl K (tN (pA (tN (oE j1)))) (tN (pH (tN (oE j1)))) (by omega) (by omega)) vX4_45 [8, 9] [0, 1, 2, 3, 4, 5, 6, 7] rfl rfl rfl rfl rfl rfl hl.1 rfl (Nat.le_of_ble_eq_true rfl) ⟨Nat.le_of_ble_eq_true rfl, Nat.le_of_ble_eq_true rfl⟩ ⟨Nat.le_of_ble_eq_true rfl, Nat.le_of_ble_eq_true rfl⟩ dX4_judge_93 (fun r22 u9 H locs hq hW => ?_)
            obtain ⟨rfl, rfl⟩ := hq
            have hW : WD g A s _ _ [(q, .inr (4, [.ref v, .int (nI pc), .ref q0, .ref q1, .ref q2, .ref q3, .ref q4, .ref q5, .ref q6])), (q0, .inl (g.2.1 1, 40, .inl pH)), (q1, .inl (g.2.1 1, 40, .inl pK)), (q2, .inl (g.2.1 1, 40, .inl pA)), (q3, .inl (g.2.1 1, 40, .inl pB)), (q4, .inl (g.2.1 1, 40, .inl oE)), (q5, .inl (g.2.1 1, 40, .inl fq5_1)), (q6, .inl (g.2.1 1, 40, .inl fq6_1)), (v, .inr (10, [.int pe, .int lc, .int de, .ref v3, .ref v4, .ref v5, .ref v6, .ref v7, .ref v8, .ref v9, .ref v10, .ref v11, .ref v12, .ref v13, .int gl, .ref v15])), (v10, .inl (g.2.1 1, 175, .inl K))] := hW
            refine lv_iand (pc := 96) hx hb dX4_judge_96 ?_
            refine r_iast (ws' := [(q, .inr (4, [.ref v, .int (nI pc), .ref q0, .ref q1, .ref q2, .ref q3, .ref q4, .ref q5, .ref q6])), (q0, .inl (g.2.1 1, 40, .inl pH)), (q1, .inl (g.2.1 1, 40, .inl pK)), (q2, .inl (g.2.1 1, 40, .inl pA)), (q3, .inl (g.2.1 1, 40, .inl pB)), (q4, .inl (g.2.1 1, 40, .inl oE)), (q5, .inl (g.2.1 1, 40, .inl fq5_1)), (q6, .inl (g.2.1 1, 40, .inl (upd fq6_1 (tN (oE j1)) ((-1 : Int32) &&& (F_X10_callable K (tN (pA (tN (oE j1)))) (tN (pH (tN (oE j1))))))))), (v, .inr (10, [.int pe, .int lc, .int de, .ref v3, .ref v4, .ref v5, .ref v6, .ref v7, .ref v8, .ref v9, .ref v10, .ref v11, .ref v12, .ref v13, .int gl, .ref v15])), (v10, .inl (g.2.1 1, 175, .inl K))]) X hW 7 rfl (vp_in_nI (by omega) (by decide)) (f' := (upd fq6_1 (tN (oE j1)) ((-1 : Int32) &&& (F_X10_callable K (tN (pA (tN (oE j1)))) (tN (pH (tN (oE j1)))))))) (by rw [nI_clamp (by omega)]) rfl dX4_judge_97 (fun H locs hW => ?_)
            refine lv_aload_n (pc := 98) hx hb dX4_judge_98 rfl (lv_at hl 6 rfl) ?_
            refine r_get X hW 0 ciX4 7 rfl (by decide) m_582 rfl rfl dX4_judge_99 ?_
            refine lv_iload (pc := 102) hx hb dX4_judge_102 (lv_at hl 2 rfl) ?_
            refine lv_iload (pc := 104) hx hb dX4_judge_104 (lv_at hl 1 rfl) ?_
            refine lv_aload_n (pc := 106) hx hb dX4_judge_106 rfl (lv_at hl 6 rfl) ?_
            refine r_get X hW 0 ciX4 8 rfl (by decide) m_585 rfl rfl dX4_judge_107 ?_
            refine lv_iload (pc := 110) hx hb dX4_judge_110 (lv_at hl 2 rfl) ?_
            refine r_iald X hW 7 rfl (vp_in_nI (by omega) (by decide)) dX4_judge_112 ?_
            refine lv_topi (fun v23 ev23 => ?_)
            obtain rfl : v23 = (upd fq6_1 (tN (oE j1)) ((-1 : Int32) &&& (F_X10_callable K (tN (pA (tN (oE j1)))) (tN (pH (tN (oE j1))))))) (tN (oE j1)) := ev23.trans (by rw [nI_clamp (by omega)])
            refine lv_iload_n (pc := 113) hx hb dX4_judge_113 rfl (lv_at hl 4 rfl) ?_
            refine c_Si (pc := 114) (As := [.int (nI (tN (pA (tN (oE j1))))), .int ((upd fq6_1 (tN (oE j1)) ((-1 : Int32) &&& (F_X10_callable K (tN (pA (tN (oE j1)))) (tN (pH (tN (oE j1))))))) (tN (oE j1))), .int x2_1]) (rest := [.int (nI (tN (oE j1))), .ref q5]) (wr := [(q, .inr (4, [.ref v, .int (nI pc), .ref q0, .ref q1, .ref q2, .ref q3, .ref q4, .ref q5, .ref q6])), (q0, .inl (g.2.1 1, 40, .inl pH)), (q1, .inl (g.2.1 1, 40, .inl pK)), (q2, .inl (g.2.1 1, 40, .inl pA)), (q3, .inl (g.2.1 1, 40, .inl pB)), (q4, .inl (g.2.1 1, 40, .inl oE)), (q5, .inl (g.2.1 1, 40, .inl fq5_1)), (q6, .inl (g.2.1 1, 40, .inl (upd fq6_1 (tN (oE j1)) ((-1 : Int32) &&& (F_X10_callable K (tN (pA (tN (oE j1)))) (tN (pH (tN (oE j1))))))))), (v, .inr (10, [.int pe, .int lc, .int de, .ref v3, .ref v4, .ref v5, .ref v6, .ref v7, .ref v8, .ref v9, .ref v10, .ref v11, .ref v12, .ref v13, .int gl, .ref v15])), (v10, .inl (g.2.1 1, 175, .inl K))]) X hW (K_X4_verdictOf l g (nI (tN (pA (tN (oE j1))))) ((upd fq6_1 (tN (oE j1)) ((-1 : Int32) &&& (F_X10_callable K (tN (pA (tN (oE j1)))) (tN (pH (tN (oE j1))))))) (tN (oE j1))) x2_1) vX4_51 [] [0, 1, 2, 3, 4, 5, 6, 7, 8, 9] rfl rfl rfl rfl rfl rfl hl.1 rfl (Nat.le_of_ble_eq_true rfl) ⟨Nat.le_of_ble_eq_true rfl, Nat.le_of_ble_eq_true rfl⟩ ⟨Nat.le_of_ble_eq_true rfl, Nat.le_of_ble_eq_true rfl⟩ dX4_judge_114 (fun r24 u9 H locs hq hW => ?_)
            obtain ⟨rfl, rfl⟩ := hq
            have hW : WD g A s _ _ [(q, .inr (4, [.ref v, .int (nI pc), .ref q0, .ref q1, .ref q2, .ref q3, .ref q4, .ref q5, .ref q6])), (q0, .inl (g.2.1 1, 40, .inl pH)), (q1, .inl (g.2.1 1, 40, .inl pK)), (q2, .inl (g.2.1 1, 40, .inl pA)), (q3, .inl (g.2.1 1, 40, .inl pB)), (q4, .inl (g.2.1 1, 40, .inl oE)), (q5, .inl (g.2.1 1, 40, .inl fq5_1)), (q6, .inl (g.2.1 1, 40, .inl (upd fq6_1 (tN (oE j1)) ((-1 : Int32) &&& (F_X10_callable K (tN (pA (tN (oE j1)))) (tN (pH (tN (oE j1))))))))), (v, .inr (10, [.int pe, .int lc, .int de, .ref v3, .ref v4, .ref v5, .ref v6, .ref v7, .ref v8, .ref v9, .ref v10, .ref v11, .ref v12, .ref v13, .int gl, .ref v15])), (v10, .inl (g.2.1 1, 175, .inl K))] := hW
            refine r_iast (ws' := [(q, .inr (4, [.ref v, .int (nI pc), .ref q0, .ref q1, .ref q2, .ref q3, .ref q4, .ref q5, .ref q6])), (q0, .inl (g.2.1 1, 40, .inl pH)), (q1, .inl (g.2.1 1, 40, .inl pK)), (q2, .inl (g.2.1 1, 40, .inl pA)), (q3, .inl (g.2.1 1, 40, .inl pB)), (q4, .inl (g.2.1 1, 40, .inl oE)), (q5, .inl (g.2.1 1, 40, .inl (upd fq5_1 (tN (oE j1)) (F_X4_verdictOf (nI (tN (pA (tN (oE j1))))) ((upd fq6_1 (tN (oE j1)) ((-1 : Int32) &&& (F_X10_callable K (tN (pA (tN (oE j1)))) (tN (pH (tN (oE j1))))))) (tN (oE j1))) x2_1)))), (q6, .inl (g.2.1 1, 40, .inl (upd fq6_1 (tN (oE j1)) ((-1 : Int32) &&& (F_X10_callable K (tN (pA (tN (oE j1)))) (tN (pH (tN (oE j1))))))))), (v, .inr (10, [.int pe, .int lc, .int de, .ref v3, .ref v4, .ref v5, .ref v6, .ref v7, .ref v8, .ref v9, .ref v10, .ref v11, .ref v12, .ref v13, .int gl, .ref v15])), (v10, .inl (g.2.1 1, 175, .inl K))]) X hW 6 rfl (vp_in_nI (by omega) (by decide)) (f' := (upd fq5_1 (tN (oE j1)) (F_X4_verdictOf (nI (tN (pA (tN (oE j1))))) ((upd fq6_1 (tN (oE j1)) ((-1 : Int32) &&& (F_X10_callable K (tN (pA (tN (oE j1)))) (tN (pH (tN (oE j1))))))) (tN (oE j1))) x2_1))) (by rw [nI_clamp (by omega)]) rfl dX4_judge_117 (fun H locs hW => ?_)
            refine lv_aload_n (pc := 118) hx hb dX4_judge_118 rfl (lv_at hl 6 rfl) ?_
            refine r_get X hW 0 ciX4 7 rfl (by decide) m_582 rfl rfl dX4_judge_119 ?_
            refine lv_iload (pc := 122) hx hb dX4_judge_122 (lv_at hl 2 rfl) ?_
            refine r_iald X hW 6 rfl (vp_in_nI (by omega) (by decide)) dX4_judge_124 ?_
            refine lv_topi (fun v25 ev25 => ?_)
            obtain rfl : v25 = (upd fq5_1 (tN (oE j1)) (F_X4_verdictOf (nI (tN (pA (tN (oE j1))))) ((upd fq6_1 (tN (oE j1)) ((-1 : Int32) &&& (F_X10_callable K (tN (pA (tN (oE j1)))) (tN (pH (tN (oE j1))))))) (tN (oE j1))) x2_1)) (tN (oE j1)) := ev25.trans (by rw [nI_clamp (by omega)])
            refine lv_if_ne (tgt := 143) (pc := 125) hx hb dX4_judge_125 rfl (fun c26 => ?_) (fun c26 => ?_)
            · refine lv_iinc (v := nI (j1 + 1)) (lv' := [(3, .int (nI (j1 + 1))), (6, .int (-1)), (5, .int (nI (tN (pA (tN (oE j1)))))), (4, .int (nI (tN (oE j1)))), (2, .int x2_1), (1, .int x1_1), (0, .ref q)]) (pc := 143) hx hb dX4_judge_143 hl (k := 3) rfl (nI_add j1 1) (by decide) rfl (fun ls hl => ?_)
              refine lv_goto (tgt := 6) (pc := 146) hx hb dX4_judge_146 rfl ?_
              exact ih1 (j1 + 1) x2_1 x1_1 (upd fq5_1 (tN (oE j1)) (F_X4_verdictOf (nI (tN (pA (tN (oE j1))))) ((upd fq6_1 (tN (oE j1)) ((-1 : Int32) &&& (F_X10_callable K (tN (pA (tN (oE j1)))) (tN (pH (tN (oE j1))))))) (tN (oE j1))) x2_1)) (upd fq6_1 (tN (oE j1)) ((-1 : Int32) &&& (F_X10_callable K (tN (pA (tN (oE j1)))) (tN (pH (tN (oE j1))))))) (by omega) (by omega) (by rw [L1_X4_judge, ← hst1]; exact (show L1_X4_judges pH pK pA pB oE K j1 x2_1 x1_1 fq5_1 fq6_1 = (x2_1, x1_1, (upd fq5_1 (tN (oE j1)) (F_X4_verdictOf (nI (tN (pA (tN (oE j1))))) ((upd fq6_1 (tN (oE j1)) ((-1 : Int32) &&& (F_X10_callable K (tN (pA (tN (oE j1)))) (tN (pH (tN (oE j1))))))) (tN (oE j1))) x2_1)), (upd fq6_1 (tN (oE j1)) ((-1 : Int32) &&& (F_X10_callable K (tN (pA (tN (oE j1)))) (tN (pH (tN (oE j1)))))))) from by rw [L1_X4_judges, if_pos c6, if_pos c10, if_neg c26]).symm) _ _ _ hW (lv_sub hl [0, 4, 5, 6] rfl)
            · refine lv_iload_n (pc := 128) hx hb dX4_judge_128 rfl (lv_at hl 4 rfl) ?_
              refine lv_iconst (v := 1) (pc := 129) hx hb dX4_judge_129 (by decide) ?_
              refine lv_iload (pc := 130) hx hb dX4_judge_130 (lv_at hl 1 rfl) ?_
              refine lv_ishl (pc := 132) hx hb dX4_judge_132 ?_
              refine lv_aload_n (pc := 133) hx hb dX4_judge_133 rfl (lv_at hl 6 rfl) ?_
              refine r_get X hW 0 ciX4 8 rfl (by decide) m_585 rfl rfl dX4_judge_134 ?_
              refine lv_iload (pc := 137) hx hb dX4_judge_137 (lv_at hl 2 rfl) ?_
              refine r_iald X hW 7 rfl (vp_in_nI (by omega) (by decide)) dX4_judge_139 ?_
              refine lv_topi (fun v29 ev29 => ?_)
              obtain rfl : v29 = (upd fq6_1 (tN (oE j1)) ((-1 : Int32) &&& (F_X10_callable K (tN (pA (tN (oE j1)))) (tN (pH (tN (oE j1))))))) (tN (oE j1)) := ev29.trans (by rw [nI_clamp (by omega)])
              refine lv_ior (pc := 140) hx hb dX4_judge_140 ?_
              refine lv_ior (pc := 141) hx hb dX4_judge_141 ?_
              refine lv_istore_n (lv' := [(2, .int (x2_1 ||| (((1 : Int32) <<< ((nI (tN (pA (tN (oE j1))))) &&& 31)) ||| ((upd fq6_1 (tN (oE j1)) ((-1 : Int32) &&& (F_X10_callable K (tN (pA (tN (oE j1)))) (tN (pH (tN (oE j1))))))) (tN (oE j1)))))), (6, .int (-1)), (5, .int (nI (tN (pA (tN (oE j1)))))), (4, .int (nI (tN (oE j1)))), (3, .int (nI j1)), (1, .int x1_1), (0, .ref q)]) (pc := 142) hx hb dX4_judge_142 rfl hl (by decide) rfl (fun ls hl => ?_)
              refine lv_iinc (v := nI (j1 + 1)) (lv' := [(3, .int (nI (j1 + 1))), (2, .int (x2_1 ||| (((1 : Int32) <<< ((nI (tN (pA (tN (oE j1))))) &&& 31)) ||| ((upd fq6_1 (tN (oE j1)) ((-1 : Int32) &&& (F_X10_callable K (tN (pA (tN (oE j1)))) (tN (pH (tN (oE j1))))))) (tN (oE j1)))))), (6, .int (-1)), (5, .int (nI (tN (pA (tN (oE j1)))))), (4, .int (nI (tN (oE j1)))), (1, .int x1_1), (0, .ref q)]) (pc := 143) hx hb dX4_judge_143 hl (k := 4) rfl (nI_add j1 1) (by decide) rfl (fun ls hl => ?_)
              refine lv_goto (tgt := 6) (pc := 146) hx hb dX4_judge_146 rfl ?_
              exact ih1 (j1 + 1) (x2_1 ||| (((1 : Int32) <<< ((nI (tN (pA (tN (oE j1))))) &&& 31)) ||| ((upd fq6_1 (tN (oE j1)) ((-1 : Int32) &&& (F_X10_callable K (tN (pA (tN (oE j1)))) (tN (pH (tN (oE j1))))))) (tN (oE j1))))) x1_1 (upd fq5_1 (tN (oE j1)) (F_X4_verdictOf (nI (tN (pA (tN (oE j1))))) ((upd fq6_1 (tN (oE j1)) ((-1 : Int32) &&& (F_X10_callable K (tN (pA (tN (oE j1)))) (tN (pH (tN (oE j1))))))) (tN (oE j1))) x2_1)) (upd fq6_1 (tN (oE j1)) ((-1 : Int32) &&& (F_X10_callable K (tN (pA (tN (oE j1)))) (tN (pH (tN (oE j1))))))) (by omega) (by omega) (by rw [L1_X4_judge, ← hst1]; exact (show L1_X4_judges pH pK pA pB oE K j1 x2_1 x1_1 fq5_1 fq6_1 = (x2_1 ||| (((1 : Int32) <<< ((nI (tN (pA (tN (oE j1))))) &&& 31)) ||| ((upd fq6_1 (tN (oE j1)) ((-1 : Int32) &&& (F_X10_callable K (tN (pA (tN (oE j1)))) (tN (pH (tN (oE j1))))))) (tN (oE j1)))), x1_1, (upd fq5_1 (tN (oE j1)) (F_X4_verdictOf (nI (tN (pA (tN (oE j1))))) ((upd fq6_1 (tN (oE j1)) ((-1 : Int32) &&& (F_X10_callable K (tN (pA (tN (oE j1)))) (tN (pH (tN (oE j1))))))) (tN (oE j1))) x2_1)), (upd fq6_1 (tN (oE j1)) ((-1 : Int32) &&& (F_X10_callable K (tN (pA (tN (oE j1)))) (tN (pH (tN (oE j1)))))))) from by rw [L1_X4_judges, if_pos c6, if_pos c10, if_pos c26]).symm) _ _ _ hW (lv_sub hl [0, 1, 5, 6] rfl)
        · refine lv_aload_n (pc := 33) hx hb dX4_judge_33 rfl (lv_at hl 4 rfl) ?_
          refine r_get X hW 0 ciX4 2 rfl (by decide) m_572 rfl rfl dX4_judge_34 ?_
          refine lv_iload (pc := 37) hx hb dX4_judge_37 (lv_at hl 0 rfl) ?_
          refine r_iald X hW 1 rfl (vp_in_nI (by omega) (by decide)) dX4_judge_39 ?_
          refine lv_topi (fun v31 ev31 => ?_)
          obtain rfl : v31 = pH (tN (oE j1)) := ev31.trans (by rw [nI_clamp (by omega)])
          refine lv_istore_n (lv' := [(1, .int (pH (tN (oE j1)))), (4, .int (nI (tN (oE j1)))), (3, .int (nI j1)), (2, .int x2_1), (0, .ref q)]) (pc := 40) hx hb dX4_judge_40 rfl hl (by decide) rfl (fun ls hl => ?_)
          refine lv_iconst (v := 0) (pc := 41) hx hb dX4_judge_41 (by decide) ?_
          refine lv_istore_n (lv' := [(2, .int 0), (1, .int (pH (tN (oE j1)))), (4, .int (nI (tN (oE j1)))), (3, .int (nI j1)), (0, .ref q)]) (pc := 42) hx hb dX4_judge_42 rfl hl (by decide) rfl (fun ls hl => ?_)
          refine lv_aload_n (pc := 43) hx hb dX4_judge_43 rfl (lv_at hl 4 rfl) ?_
          refine r_get X hW 0 ciX4 4 rfl (by decide) m_576 rfl rfl dX4_judge_44 ?_
          refine lv_iload (pc := 47) hx hb dX4_judge_47 (lv_at hl 2 rfl) ?_
          refine r_iald X hW 3 rfl (vp_in_nI (by omega) (by decide)) dX4_judge_49 ?_
          refine lv_topi (fun v32 ev32 => ?_)
          obtain rfl : v32 = pA (tN (oE j1)) := ev32.trans (by rw [nI_clamp (by omega)])
          rw [hCj.1]
          refine lv_istore (lv' := [(5, .int (nI (tN (pA (tN (oE j1)))))), (2, .int 0), (1, .int (pH (tN (oE j1)))), (4, .int (nI (tN (oE j1)))), (3, .int (nI j1)), (0, .ref q)]) (pc := 50) hx hb dX4_judge_50 hl (by decide) rfl (fun ls hl => ?_)
          refine lv_aload_n (pc := 52) hx hb dX4_judge_52 rfl (lv_at hl 5 rfl) ?_
          refine r_get X hW 0 ciX4 3 rfl (by decide) m_574 rfl rfl dX4_judge_53 ?_
          refine lv_iload (pc := 56) hx hb dX4_judge_56 (lv_at hl 3 rfl) ?_
          refine r_iald X hW 2 rfl (vp_in_nI (by omega) (by decide)) dX4_judge_58 ?_
          refine lv_topi (fun v33 ev33 => ?_)
          obtain rfl : v33 = pK (tN (oE j1)) := ev33.trans (by rw [nI_clamp (by omega)])
          refine lv_iconst (v := 3) (pc := 59) hx hb dX4_judge_59 (by decide) ?_
          refine lv_icmp_ne (tgt := 67) (pc := 60) hx hb dX4_judge_60 rfl (fun c34 => ?_) (fun c34 => ?_)
          · refine lv_iconst (v := 1) (pc := 67) hx hb dX4_judge_67 (by decide) ?_
            refine lv_aload_n (pc := 68) hx hb dX4_judge_68 rfl (lv_at hl 5 rfl) ?_
            refine r_get X hW 0 ciX4 5 rfl (by decide) m_578 rfl rfl dX4_judge_69 ?_
            refine lv_iload (pc := 72) hx hb dX4_judge_72 (lv_at hl 3 rfl) ?_
            refine r_iald X hW 4 rfl (vp_in_nI (by omega) (by decide)) dX4_judge_74 ?_
            refine lv_topi (fun v36 ev36 => ?_)
            obtain rfl : v36 = pB (tN (oE j1)) := ev36.trans (by rw [nI_clamp (by omega)])
            refine lv_ishl (pc := 75) hx hb dX4_judge_75 ?_
            refine lv_istore (lv' := [(6, .int ((1 : Int32) <<< ((pB (tN (oE j1))) &&& 31))), (5, .int (nI (tN (pA (tN (oE j1)))))), (2, .int 0), (1, .int (pH (tN (oE j1)))), (4, .int (nI (tN (oE j1)))), (3, .int (nI j1)), (0, .ref q)]) (pc := 76) hx hb dX4_judge_76 hl (by decide) rfl (fun ls hl => ?_)
            refine lv_aload_n (pc := 78) hx hb dX4_judge_78 rfl (lv_at hl 6 rfl) ?_
            refine r_get X hW 0 ciX4 8 rfl (by decide) m_585 rfl rfl dX4_judge_79 ?_
            refine lv_iload (pc := 82) hx hb dX4_judge_82 (lv_at hl 4 rfl) ?_
            refine lv_iload (pc := 84) hx hb dX4_judge_84 (lv_at hl 0 rfl) ?_
            refine lv_aload_n (pc := 86) hx hb dX4_judge_86 rfl (lv_at hl 6 rfl) ?_
            refine r_get X hW 0 ciX4 0 rfl (by decide) m_566 rfl rfl dX4_judge_87 ?_
            refine lv_iload (pc := 90) hx hb dX4_judge_90 (lv_at hl 1 rfl) ?_
            refine lv_iload_n (pc := 92) hx hb dX4_judge_92 rfl (lv_at hl 3 rfl) ?_
            rw [hHj.1]
            refine c_Vi (pc := 93) (As := [.int (nI (tN (pA (tN (oE j1))))), .int (nI (tN (pH (tN (oE j1)))))]) (rest := [.int ((1 : Int32) <<< ((pB (tN (oE j1))) &&& 31)), .int (nI (tN (oE j1))), .ref q6]) (wr := [(q, .inr (4, [.ref v, .int (nI pc), .ref q0, .ref q1, .ref q2, .ref q3, .ref q4, .ref q5, .ref q6])), (q0, .inl (g.2.1 1, 40, .inl pH)), (q1, .inl (g.2.1 1, 40, .inl pK)), (q2, .inl (g.2.1 1, 40, .inl pA)), (q3, .inl (g.2.1 1, 40, .inl pB)), (q4, .inl (g.2.1 1, 40, .inl oE)), (q5, .inl (g.2.1 1, 40, .inl fq5_1)), (q6, .inl (g.2.1 1, 40, .inl fq6_1))]) X hW 8 ciX10 rfl (K_X10_callable l g v v3 v4 v5 v6 v7 v8 v9 v10 v11 v12 v13 v15 pe lc de gl K (tN (pA (tN (oE j1)))) (tN (pH (tN (oE j1)))) (by omega) (by omega)) vX4_45 [8, 9] [0, 1, 2, 3, 4, 5, 6, 7] rfl rfl rfl rfl rfl rfl hl.1 rfl (Nat.le_of_ble_eq_true rfl) ⟨Nat.le_of_ble_eq_true rfl, Nat.le_of_ble_eq_true rfl⟩ ⟨Nat.le_of_ble_eq_true rfl, Nat.le_of_ble_eq_true rfl⟩ dX4_judge_93 (fun r37 u9 H locs hq hW => ?_)
            obtain ⟨rfl, rfl⟩ := hq
            have hW : WD g A s _ _ [(q, .inr (4, [.ref v, .int (nI pc), .ref q0, .ref q1, .ref q2, .ref q3, .ref q4, .ref q5, .ref q6])), (q0, .inl (g.2.1 1, 40, .inl pH)), (q1, .inl (g.2.1 1, 40, .inl pK)), (q2, .inl (g.2.1 1, 40, .inl pA)), (q3, .inl (g.2.1 1, 40, .inl pB)), (q4, .inl (g.2.1 1, 40, .inl oE)), (q5, .inl (g.2.1 1, 40, .inl fq5_1)), (q6, .inl (g.2.1 1, 40, .inl fq6_1)), (v, .inr (10, [.int pe, .int lc, .int de, .ref v3, .ref v4, .ref v5, .ref v6, .ref v7, .ref v8, .ref v9, .ref v10, .ref v11, .ref v12, .ref v13, .int gl, .ref v15])), (v10, .inl (g.2.1 1, 175, .inl K))] := hW
            refine lv_iand (pc := 96) hx hb dX4_judge_96 ?_
            refine r_iast (ws' := [(q, .inr (4, [.ref v, .int (nI pc), .ref q0, .ref q1, .ref q2, .ref q3, .ref q4, .ref q5, .ref q6])), (q0, .inl (g.2.1 1, 40, .inl pH)), (q1, .inl (g.2.1 1, 40, .inl pK)), (q2, .inl (g.2.1 1, 40, .inl pA)), (q3, .inl (g.2.1 1, 40, .inl pB)), (q4, .inl (g.2.1 1, 40, .inl oE)), (q5, .inl (g.2.1 1, 40, .inl fq5_1)), (q6, .inl (g.2.1 1, 40, .inl (upd fq6_1 (tN (oE j1)) (((1 : Int32) <<< ((pB (tN (oE j1))) &&& 31)) &&& (F_X10_callable K (tN (pA (tN (oE j1)))) (tN (pH (tN (oE j1))))))))), (v, .inr (10, [.int pe, .int lc, .int de, .ref v3, .ref v4, .ref v5, .ref v6, .ref v7, .ref v8, .ref v9, .ref v10, .ref v11, .ref v12, .ref v13, .int gl, .ref v15])), (v10, .inl (g.2.1 1, 175, .inl K))]) X hW 7 rfl (vp_in_nI (by omega) (by decide)) (f' := (upd fq6_1 (tN (oE j1)) (((1 : Int32) <<< ((pB (tN (oE j1))) &&& 31)) &&& (F_X10_callable K (tN (pA (tN (oE j1)))) (tN (pH (tN (oE j1)))))))) (by rw [nI_clamp (by omega)]) rfl dX4_judge_97 (fun H locs hW => ?_)
            refine lv_aload_n (pc := 98) hx hb dX4_judge_98 rfl (lv_at hl 6 rfl) ?_
            refine r_get X hW 0 ciX4 7 rfl (by decide) m_582 rfl rfl dX4_judge_99 ?_
            refine lv_iload (pc := 102) hx hb dX4_judge_102 (lv_at hl 4 rfl) ?_
            refine lv_iload (pc := 104) hx hb dX4_judge_104 (lv_at hl 1 rfl) ?_
            refine lv_aload_n (pc := 106) hx hb dX4_judge_106 rfl (lv_at hl 6 rfl) ?_
            refine r_get X hW 0 ciX4 8 rfl (by decide) m_585 rfl rfl dX4_judge_107 ?_
            refine lv_iload (pc := 110) hx hb dX4_judge_110 (lv_at hl 4 rfl) ?_
            refine r_iald X hW 7 rfl (vp_in_nI (by omega) (by decide)) dX4_judge_112 ?_
            refine lv_topi (fun v38 ev38 => ?_)
            obtain rfl : v38 = (upd fq6_1 (tN (oE j1)) (((1 : Int32) <<< ((pB (tN (oE j1))) &&& 31)) &&& (F_X10_callable K (tN (pA (tN (oE j1)))) (tN (pH (tN (oE j1))))))) (tN (oE j1)) := ev38.trans (by rw [nI_clamp (by omega)])
            refine lv_iload_n (pc := 113) hx hb dX4_judge_113 rfl (lv_at hl 2 rfl) ?_
            refine c_Si (pc := 114) (As := [.int (nI (tN (pA (tN (oE j1))))), .int ((upd fq6_1 (tN (oE j1)) (((1 : Int32) <<< ((pB (tN (oE j1))) &&& 31)) &&& (F_X10_callable K (tN (pA (tN (oE j1)))) (tN (pH (tN (oE j1))))))) (tN (oE j1))), .int 0]) (rest := [.int (nI (tN (oE j1))), .ref q5]) (wr := [(q, .inr (4, [.ref v, .int (nI pc), .ref q0, .ref q1, .ref q2, .ref q3, .ref q4, .ref q5, .ref q6])), (q0, .inl (g.2.1 1, 40, .inl pH)), (q1, .inl (g.2.1 1, 40, .inl pK)), (q2, .inl (g.2.1 1, 40, .inl pA)), (q3, .inl (g.2.1 1, 40, .inl pB)), (q4, .inl (g.2.1 1, 40, .inl oE)), (q5, .inl (g.2.1 1, 40, .inl fq5_1)), (q6, .inl (g.2.1 1, 40, .inl (upd fq6_1 (tN (oE j1)) (((1 : Int32) <<< ((pB (tN (oE j1))) &&& 31)) &&& (F_X10_callable K (tN (pA (tN (oE j1)))) (tN (pH (tN (oE j1))))))))), (v, .inr (10, [.int pe, .int lc, .int de, .ref v3, .ref v4, .ref v5, .ref v6, .ref v7, .ref v8, .ref v9, .ref v10, .ref v11, .ref v12, .ref v13, .int gl, .ref v15])), (v10, .inl (g.2.1 1, 175, .inl K))]) X hW (K_X4_verdictOf l g (nI (tN (pA (tN (oE j1))))) ((upd fq6_1 (tN (oE j1)) (((1 : Int32) <<< ((pB (tN (oE j1))) &&& 31)) &&& (F_X10_callable K (tN (pA (tN (oE j1)))) (tN (pH (tN (oE j1))))))) (tN (oE j1))) (0 : Int32)) vX4_51 [] [0, 1, 2, 3, 4, 5, 6, 7, 8, 9] rfl rfl rfl rfl rfl rfl hl.1 rfl (Nat.le_of_ble_eq_true rfl) ⟨Nat.le_of_ble_eq_true rfl, Nat.le_of_ble_eq_true rfl⟩ ⟨Nat.le_of_ble_eq_true rfl, Nat.le_of_ble_eq_true rfl⟩ dX4_judge_114 (fun r39 u9 H locs hq hW => ?_)
            obtain ⟨rfl, rfl⟩ := hq
            have hW : WD g A s _ _ [(q, .inr (4, [.ref v, .int (nI pc), .ref q0, .ref q1, .ref q2, .ref q3, .ref q4, .ref q5, .ref q6])), (q0, .inl (g.2.1 1, 40, .inl pH)), (q1, .inl (g.2.1 1, 40, .inl pK)), (q2, .inl (g.2.1 1, 40, .inl pA)), (q3, .inl (g.2.1 1, 40, .inl pB)), (q4, .inl (g.2.1 1, 40, .inl oE)), (q5, .inl (g.2.1 1, 40, .inl fq5_1)), (q6, .inl (g.2.1 1, 40, .inl (upd fq6_1 (tN (oE j1)) (((1 : Int32) <<< ((pB (tN (oE j1))) &&& 31)) &&& (F_X10_callable K (tN (pA (tN (oE j1)))) (tN (pH (tN (oE j1))))))))), (v, .inr (10, [.int pe, .int lc, .int de, .ref v3, .ref v4, .ref v5, .ref v6, .ref v7, .ref v8, .ref v9, .ref v10, .ref v11, .ref v12, .ref v13, .int gl, .ref v15])), (v10, .inl (g.2.1 1, 175, .inl K))] := hW
            refine r_iast (ws' := [(q, .inr (4, [.ref v, .int (nI pc), .ref q0, .ref q1, .ref q2, .ref q3, .ref q4, .ref q5, .ref q6])), (q0, .inl (g.2.1 1, 40, .inl pH)), (q1, .inl (g.2.1 1, 40, .inl pK)), (q2, .inl (g.2.1 1, 40, .inl pA)), (q3, .inl (g.2.1 1, 40, .inl pB)), (q4, .inl (g.2.1 1, 40, .inl oE)), (q5, .inl (g.2.1 1, 40, .inl (upd fq5_1 (tN (oE j1)) (F_X4_verdictOf (nI (tN (pA (tN (oE j1))))) ((upd fq6_1 (tN (oE j1)) (((1 : Int32) <<< ((pB (tN (oE j1))) &&& 31)) &&& (F_X10_callable K (tN (pA (tN (oE j1)))) (tN (pH (tN (oE j1))))))) (tN (oE j1))) (0 : Int32))))), (q6, .inl (g.2.1 1, 40, .inl (upd fq6_1 (tN (oE j1)) (((1 : Int32) <<< ((pB (tN (oE j1))) &&& 31)) &&& (F_X10_callable K (tN (pA (tN (oE j1)))) (tN (pH (tN (oE j1))))))))), (v, .inr (10, [.int pe, .int lc, .int de, .ref v3, .ref v4, .ref v5, .ref v6, .ref v7, .ref v8, .ref v9, .ref v10, .ref v11, .ref v12, .ref v13, .int gl, .ref v15])), (v10, .inl (g.2.1 1, 175, .inl K))]) X hW 6 rfl (vp_in_nI (by omega) (by decide)) (f' := (upd fq5_1 (tN (oE j1)) (F_X4_verdictOf (nI (tN (pA (tN (oE j1))))) ((upd fq6_1 (tN (oE j1)) (((1 : Int32) <<< ((pB (tN (oE j1))) &&& 31)) &&& (F_X10_callable K (tN (pA (tN (oE j1)))) (tN (pH (tN (oE j1))))))) (tN (oE j1))) (0 : Int32)))) (by rw [nI_clamp (by omega)]) rfl dX4_judge_117 (fun H locs hW => ?_)
            refine lv_aload_n (pc := 118) hx hb dX4_judge_118 rfl (lv_at hl 6 rfl) ?_
            refine r_get X hW 0 ciX4 7 rfl (by decide) m_582 rfl rfl dX4_judge_119 ?_
            refine lv_iload (pc := 122) hx hb dX4_judge_122 (lv_at hl 4 rfl) ?_
            refine r_iald X hW 6 rfl (vp_in_nI (by omega) (by decide)) dX4_judge_124 ?_
            refine lv_topi (fun v40 ev40 => ?_)
            obtain rfl : v40 = (upd fq5_1 (tN (oE j1)) (F_X4_verdictOf (nI (tN (pA (tN (oE j1))))) ((upd fq6_1 (tN (oE j1)) (((1 : Int32) <<< ((pB (tN (oE j1))) &&& 31)) &&& (F_X10_callable K (tN (pA (tN (oE j1)))) (tN (pH (tN (oE j1))))))) (tN (oE j1))) (0 : Int32))) (tN (oE j1)) := ev40.trans (by rw [nI_clamp (by omega)])
            refine lv_if_ne (tgt := 143) (pc := 125) hx hb dX4_judge_125 rfl (fun c41 => ?_) (fun c41 => ?_)
            · refine lv_iinc (v := nI (j1 + 1)) (lv' := [(3, .int (nI (j1 + 1))), (6, .int ((1 : Int32) <<< ((pB (tN (oE j1))) &&& 31))), (5, .int (nI (tN (pA (tN (oE j1)))))), (2, .int 0), (1, .int (pH (tN (oE j1)))), (4, .int (nI (tN (oE j1)))), (0, .ref q)]) (pc := 143) hx hb dX4_judge_143 hl (k := 5) rfl (nI_add j1 1) (by decide) rfl (fun ls hl => ?_)
              refine lv_goto (tgt := 6) (pc := 146) hx hb dX4_judge_146 rfl ?_
              exact ih1 (j1 + 1) (0 : Int32) (pH (tN (oE j1))) (upd fq5_1 (tN (oE j1)) (F_X4_verdictOf (nI (tN (pA (tN (oE j1))))) ((upd fq6_1 (tN (oE j1)) (((1 : Int32) <<< ((pB (tN (oE j1))) &&& 31)) &&& (F_X10_callable K (tN (pA (tN (oE j1)))) (tN (pH (tN (oE j1))))))) (tN (oE j1))) (0 : Int32))) (upd fq6_1 (tN (oE j1)) (((1 : Int32) <<< ((pB (tN (oE j1))) &&& 31)) &&& (F_X10_callable K (tN (pA (tN (oE j1)))) (tN (pH (tN (oE j1))))))) (by omega) (by omega) (by rw [L1_X4_judge, ← hst1]; exact (show L1_X4_judges pH pK pA pB oE K j1 x2_1 x1_1 fq5_1 fq6_1 = ((0 : Int32), pH (tN (oE j1)), (upd fq5_1 (tN (oE j1)) (F_X4_verdictOf (nI (tN (pA (tN (oE j1))))) ((upd fq6_1 (tN (oE j1)) (((1 : Int32) <<< ((pB (tN (oE j1))) &&& 31)) &&& (F_X10_callable K (tN (pA (tN (oE j1)))) (tN (pH (tN (oE j1))))))) (tN (oE j1))) (0 : Int32))), (upd fq6_1 (tN (oE j1)) (((1 : Int32) <<< ((pB (tN (oE j1))) &&& 31)) &&& (F_X10_callable K (tN (pA (tN (oE j1)))) (tN (pH (tN (oE j1)))))))) from by rw [L1_X4_judges, if_neg c6, if_neg c34, if_neg c41]).symm) _ _ _ hW (lv_sub hl [0, 3, 4, 6] rfl)
            · refine lv_iload_n (pc := 128) hx hb dX4_judge_128 rfl (lv_at hl 2 rfl) ?_
              refine lv_iconst (v := 1) (pc := 129) hx hb dX4_judge_129 (by decide) ?_
              refine lv_iload (pc := 130) hx hb dX4_judge_130 (lv_at hl 1 rfl) ?_
              refine lv_ishl (pc := 132) hx hb dX4_judge_132 ?_
              refine lv_aload_n (pc := 133) hx hb dX4_judge_133 rfl (lv_at hl 6 rfl) ?_
              refine r_get X hW 0 ciX4 8 rfl (by decide) m_585 rfl rfl dX4_judge_134 ?_
              refine lv_iload (pc := 137) hx hb dX4_judge_137 (lv_at hl 4 rfl) ?_
              refine r_iald X hW 7 rfl (vp_in_nI (by omega) (by decide)) dX4_judge_139 ?_
              refine lv_topi (fun v44 ev44 => ?_)
              obtain rfl : v44 = (upd fq6_1 (tN (oE j1)) (((1 : Int32) <<< ((pB (tN (oE j1))) &&& 31)) &&& (F_X10_callable K (tN (pA (tN (oE j1)))) (tN (pH (tN (oE j1))))))) (tN (oE j1)) := ev44.trans (by rw [nI_clamp (by omega)])
              refine lv_ior (pc := 140) hx hb dX4_judge_140 ?_
              refine lv_ior (pc := 141) hx hb dX4_judge_141 ?_
              refine lv_istore_n (lv' := [(2, .int ((0 : Int32) ||| (((1 : Int32) <<< ((nI (tN (pA (tN (oE j1))))) &&& 31)) ||| ((upd fq6_1 (tN (oE j1)) (((1 : Int32) <<< ((pB (tN (oE j1))) &&& 31)) &&& (F_X10_callable K (tN (pA (tN (oE j1)))) (tN (pH (tN (oE j1))))))) (tN (oE j1)))))), (6, .int ((1 : Int32) <<< ((pB (tN (oE j1))) &&& 31))), (5, .int (nI (tN (pA (tN (oE j1)))))), (1, .int (pH (tN (oE j1)))), (4, .int (nI (tN (oE j1)))), (3, .int (nI j1)), (0, .ref q)]) (pc := 142) hx hb dX4_judge_142 rfl hl (by decide) rfl (fun ls hl => ?_)
              refine lv_iinc (v := nI (j1 + 1)) (lv' := [(3, .int (nI (j1 + 1))), (2, .int ((0 : Int32) ||| (((1 : Int32) <<< ((nI (tN (pA (tN (oE j1))))) &&& 31)) ||| ((upd fq6_1 (tN (oE j1)) (((1 : Int32) <<< ((pB (tN (oE j1))) &&& 31)) &&& (F_X10_callable K (tN (pA (tN (oE j1)))) (tN (pH (tN (oE j1))))))) (tN (oE j1)))))), (6, .int ((1 : Int32) <<< ((pB (tN (oE j1))) &&& 31))), (5, .int (nI (tN (pA (tN (oE j1)))))), (1, .int (pH (tN (oE j1)))), (4, .int (nI (tN (oE j1)))), (0, .ref q)]) (pc := 143) hx hb dX4_judge_143 hl (k := 5) rfl (nI_add j1 1) (by decide) rfl (fun ls hl => ?_)
              refine lv_goto (tgt := 6) (pc := 146) hx hb dX4_judge_146 rfl ?_
              exact ih1 (j1 + 1) ((0 : Int32) ||| (((1 : Int32) <<< ((nI (tN (pA (tN (oE j1))))) &&& 31)) ||| ((upd fq6_1 (tN (oE j1)) (((1 : Int32) <<< ((pB (tN (oE j1))) &&& 31)) &&& (F_X10_callable K (tN (pA (tN (oE j1)))) (tN (pH (tN (oE j1))))))) (tN (oE j1))))) (pH (tN (oE j1))) (upd fq5_1 (tN (oE j1)) (F_X4_verdictOf (nI (tN (pA (tN (oE j1))))) ((upd fq6_1 (tN (oE j1)) (((1 : Int32) <<< ((pB (tN (oE j1))) &&& 31)) &&& (F_X10_callable K (tN (pA (tN (oE j1)))) (tN (pH (tN (oE j1))))))) (tN (oE j1))) (0 : Int32))) (upd fq6_1 (tN (oE j1)) (((1 : Int32) <<< ((pB (tN (oE j1))) &&& 31)) &&& (F_X10_callable K (tN (pA (tN (oE j1)))) (tN (pH (tN (oE j1))))))) (by omega) (by omega) (by rw [L1_X4_judge, ← hst1]; exact (show L1_X4_judges pH pK pA pB oE K j1 x2_1 x1_1 fq5_1 fq6_1 = ((0 : Int32) ||| (((1 : Int32) <<< ((nI (tN (pA (tN (oE j1))))) &&& 31)) ||| ((upd fq6_1 (tN (oE j1)) (((1 : Int32) <<< ((pB (tN (oE j1))) &&& 31)) &&& (F_X10_callable K (tN (pA (tN (oE j1)))) (tN (pH (tN (oE j1))))))) (tN (oE j1)))), pH (tN (oE j1)), (upd fq5_1 (tN (oE j1)) (F_X4_verdictOf (nI (tN (pA (tN (oE j1))))) ((upd fq6_1 (tN (oE j1)) (((1 : Int32) <<< ((pB (tN (oE j1))) &&& 31)) &&& (F_X10_callable K (tN (pA (tN (oE j1)))) (tN (pH (tN (oE j1))))))) (tN (oE j1))) (0 : Int32))), (upd fq6_1 (tN (oE j1)) (((1 : Int32) <<< ((pB (tN (oE j1))) &&& 31)) &&& (F_X10_callable K (tN (pA (tN (oE j1)))) (tN (pH (tN (oE j1)))))))) from by rw [L1_X4_judges, if_neg c6, if_neg c34, if_pos c41]).symm) _ _ _ hW (lv_sub hl [0, 1, 4, 6] rfl)
          · refine lv_iconst (v := (-1)) (pc := 63) hx hb dX4_judge_63 (by decide) ?_
            refine lv_goto (tgt := 76) (pc := 64) hx hb dX4_judge_64 rfl ?_
            refine lv_istore (lv' := [(6, .int (-1)), (5, .int (nI (tN (pA (tN (oE j1)))))), (2, .int 0), (1, .int (pH (tN (oE j1)))), (4, .int (nI (tN (oE j1)))), (3, .int (nI j1)), (0, .ref q)]) (pc := 76) hx hb dX4_judge_76 hl (by decide) rfl (fun ls hl => ?_)
            refine lv_aload_n (pc := 78) hx hb dX4_judge_78 rfl (lv_at hl 6 rfl) ?_
            refine r_get X hW 0 ciX4 8 rfl (by decide) m_585 rfl rfl dX4_judge_79 ?_
            refine lv_iload (pc := 82) hx hb dX4_judge_82 (lv_at hl 4 rfl) ?_
            refine lv_iload (pc := 84) hx hb dX4_judge_84 (lv_at hl 0 rfl) ?_
            refine lv_aload_n (pc := 86) hx hb dX4_judge_86 rfl (lv_at hl 6 rfl) ?_
            refine r_get X hW 0 ciX4 0 rfl (by decide) m_566 rfl rfl dX4_judge_87 ?_
            refine lv_iload (pc := 90) hx hb dX4_judge_90 (lv_at hl 1 rfl) ?_
            refine lv_iload_n (pc := 92) hx hb dX4_judge_92 rfl (lv_at hl 3 rfl) ?_
            rw [hHj.1]
            refine c_Vi (pc := 93) (As := [.int (nI (tN (pA (tN (oE j1))))), .int (nI (tN (pH (tN (oE j1)))))]) (rest := [.int (-1), .int (nI (tN (oE j1))), .ref q6]) (wr := [(q, .inr (4, [.ref v, .int (nI pc), .ref q0, .ref q1, .ref q2, .ref q3, .ref q4, .ref q5, .ref q6])), (q0, .inl (g.2.1 1, 40, .inl pH)), (q1, .inl (g.2.1 1, 40, .inl pK)), (q2, .inl (g.2.1 1, 40, .inl pA)), (q3, .inl (g.2.1 1, 40, .inl pB)), (q4, .inl (g.2.1 1, 40, .inl oE)), (q5, .inl (g.2.1 1, 40, .inl fq5_1)), (q6, .inl (g.2.1 1, 40, .inl fq6_1))]) X hW 8 ciX10 rfl (K_X10_callable l g v v3 v4 v5 v6 v7 v8 v9 v10 v11 v12 v13 v15 pe lc de gl K (tN (pA (tN (oE j1)))) (tN (pH (tN (oE j1)))) (by omega) (by omega)) vX4_45 [8, 9] [0, 1, 2, 3, 4, 5, 6, 7] rfl rfl rfl rfl rfl rfl hl.1 rfl (Nat.le_of_ble_eq_true rfl) ⟨Nat.le_of_ble_eq_true rfl, Nat.le_of_ble_eq_true rfl⟩ ⟨Nat.le_of_ble_eq_true rfl, Nat.le_of_ble_eq_true rfl⟩ dX4_judge_93 (fun r46 u9 H locs hq hW => ?_)
            obtain ⟨rfl, rfl⟩ := hq
            have hW : WD g A s _ _ [(q, .inr (4, [.ref v, .int (nI pc), .ref q0, .ref q1, .ref q2, .ref q3, .ref q4, .ref q5, .ref q6])), (q0, .inl (g.2.1 1, 40, .inl pH)), (q1, .inl (g.2.1 1, 40, .inl pK)), (q2, .inl (g.2.1 1, 40, .inl pA)), (q3, .inl (g.2.1 1, 40, .inl pB)), (q4, .inl (g.2.1 1, 40, .inl oE)), (q5, .inl (g.2.1 1, 40, .inl fq5_1)), (q6, .inl (g.2.1 1, 40, .inl fq6_1)), (v, .inr (10, [.int pe, .int lc, .int de, .ref v3, .ref v4, .ref v5, .ref v6, .ref v7, .ref v8, .ref v9, .ref v10, .ref v11, .ref v12, .ref v13, .int gl, .ref v15])), (v10, .inl (g.2.1 1, 175, .inl K))] := hW
            refine lv_iand (pc := 96) hx hb dX4_judge_96 ?_
            refine r_iast (ws' := [(q, .inr (4, [.ref v, .int (nI pc), .ref q0, .ref q1, .ref q2, .ref q3, .ref q4, .ref q5, .ref q6])), (q0, .inl (g.2.1 1, 40, .inl pH)), (q1, .inl (g.2.1 1, 40, .inl pK)), (q2, .inl (g.2.1 1, 40, .inl pA)), (q3, .inl (g.2.1 1, 40, .inl pB)), (q4, .inl (g.2.1 1, 40, .inl oE)), (q5, .inl (g.2.1 1, 40, .inl fq5_1)), (q6, .inl (g.2.1 1, 40, .inl (upd fq6_1 (tN (oE j1)) ((-1 : Int32) &&& (F_X10_callable K (tN (pA (tN (oE j1)))) (tN (pH (tN (oE j1))))))))), (v, .inr (10, [.int pe, .int lc, .int de, .ref v3, .ref v4, .ref v5, .ref v6, .ref v7, .ref v8, .ref v9, .ref v10, .ref v11, .ref v12, .ref v13, .int gl, .ref v15])), (v10, .inl (g.2.1 1, 175, .inl K))]) X hW 7 rfl (vp_in_nI (by omega) (by decide)) (f' := (upd fq6_1 (tN (oE j1)) ((-1 : Int32) &&& (F_X10_callable K (tN (pA (tN (oE j1)))) (tN (pH (tN (oE j1)))))))) (by rw [nI_clamp (by omega)]) rfl dX4_judge_97 (fun H locs hW => ?_)
            refine lv_aload_n (pc := 98) hx hb dX4_judge_98 rfl (lv_at hl 6 rfl) ?_
            refine r_get X hW 0 ciX4 7 rfl (by decide) m_582 rfl rfl dX4_judge_99 ?_
            refine lv_iload (pc := 102) hx hb dX4_judge_102 (lv_at hl 4 rfl) ?_
            refine lv_iload (pc := 104) hx hb dX4_judge_104 (lv_at hl 1 rfl) ?_
            refine lv_aload_n (pc := 106) hx hb dX4_judge_106 rfl (lv_at hl 6 rfl) ?_
            refine r_get X hW 0 ciX4 8 rfl (by decide) m_585 rfl rfl dX4_judge_107 ?_
            refine lv_iload (pc := 110) hx hb dX4_judge_110 (lv_at hl 4 rfl) ?_
            refine r_iald X hW 7 rfl (vp_in_nI (by omega) (by decide)) dX4_judge_112 ?_
            refine lv_topi (fun v47 ev47 => ?_)
            obtain rfl : v47 = (upd fq6_1 (tN (oE j1)) ((-1 : Int32) &&& (F_X10_callable K (tN (pA (tN (oE j1)))) (tN (pH (tN (oE j1))))))) (tN (oE j1)) := ev47.trans (by rw [nI_clamp (by omega)])
            refine lv_iload_n (pc := 113) hx hb dX4_judge_113 rfl (lv_at hl 2 rfl) ?_
            refine c_Si (pc := 114) (As := [.int (nI (tN (pA (tN (oE j1))))), .int ((upd fq6_1 (tN (oE j1)) ((-1 : Int32) &&& (F_X10_callable K (tN (pA (tN (oE j1)))) (tN (pH (tN (oE j1))))))) (tN (oE j1))), .int 0]) (rest := [.int (nI (tN (oE j1))), .ref q5]) (wr := [(q, .inr (4, [.ref v, .int (nI pc), .ref q0, .ref q1, .ref q2, .ref q3, .ref q4, .ref q5, .ref q6])), (q0, .inl (g.2.1 1, 40, .inl pH)), (q1, .inl (g.2.1 1, 40, .inl pK)), (q2, .inl (g.2.1 1, 40, .inl pA)), (q3, .inl (g.2.1 1, 40, .inl pB)), (q4, .inl (g.2.1 1, 40, .inl oE)), (q5, .inl (g.2.1 1, 40, .inl fq5_1)), (q6, .inl (g.2.1 1, 40, .inl (upd fq6_1 (tN (oE j1)) ((-1 : Int32) &&& (F_X10_callable K (tN (pA (tN (oE j1)))) (tN (pH (tN (oE j1))))))))), (v, .inr (10, [.int pe, .int lc, .int de, .ref v3, .ref v4, .ref v5, .ref v6, .ref v7, .ref v8, .ref v9, .ref v10, .ref v11, .ref v12, .ref v13, .int gl, .ref v15])), (v10, .inl (g.2.1 1, 175, .inl K))]) X hW (K_X4_verdictOf l g (nI (tN (pA (tN (oE j1))))) ((upd fq6_1 (tN (oE j1)) ((-1 : Int32) &&& (F_X10_callable K (tN (pA (tN (oE j1)))) (tN (pH (tN (oE j1))))))) (tN (oE j1))) (0 : Int32)) vX4_51 [] [0, 1, 2, 3, 4, 5, 6, 7, 8, 9] rfl rfl rfl rfl rfl rfl hl.1 rfl (Nat.le_of_ble_eq_true rfl) ⟨Nat.le_of_ble_eq_true rfl, Nat.le_of_ble_eq_true rfl⟩ ⟨Nat.le_of_ble_eq_true rfl, Nat.le_of_ble_eq_true rfl⟩ dX4_judge_114 (fun r48 u9 H locs hq hW => ?_)
            obtain ⟨rfl, rfl⟩ := hq
            have hW : WD g A s _ _ [(q, .inr (4, [.ref v, .int (nI pc), .ref q0, .ref q1, .ref q2, .ref q3, .ref q4, .ref q5, .ref q6])), (q0, .inl (g.2.1 1, 40, .inl pH)), (q1, .inl (g.2.1 1, 40, .inl pK)), (q2, .inl (g.2.1 1, 40, .inl pA)), (q3, .inl (g.2.1 1, 40, .inl pB)), (q4, .inl (g.2.1 1, 40, .inl oE)), (q5, .inl (g.2.1 1, 40, .inl fq5_1)), (q6, .inl (g.2.1 1, 40, .inl (upd fq6_1 (tN (oE j1)) ((-1 : Int32) &&& (F_X10_callable K (tN (pA (tN (oE j1)))) (tN (pH (tN (oE j1))))))))), (v, .inr (10, [.int pe, .int lc, .int de, .ref v3, .ref v4, .ref v5, .ref v6, .ref v7, .ref v8, .ref v9, .ref v10, .ref v11, .ref v12, .ref v13, .int gl, .ref v15])), (v10, .inl (g.2.1 1, 175, .inl K))] := hW
            refine r_iast (ws' := [(q, .inr (4, [.ref v, .int (nI pc), .ref q0, .ref q1, .ref q2, .ref q3, .ref q4, .ref q5, .ref q6])), (q0, .inl (g.2.1 1, 40, .inl pH)), (q1, .inl (g.2.1 1, 40, .inl pK)), (q2, .inl (g.2.1 1, 40, .inl pA)), (q3, .inl (g.2.1 1, 40, .inl pB)), (q4, .inl (g.2.1 1, 40, .inl oE)), (q5, .inl (g.2.1 1, 40, .inl (upd fq5_1 (tN (oE j1)) (F_X4_verdictOf (nI (tN (pA (tN (oE j1))))) ((upd fq6_1 (tN (oE j1)) ((-1 : Int32) &&& (F_X10_callable K (tN (pA (tN (oE j1)))) (tN (pH (tN (oE j1))))))) (tN (oE j1))) (0 : Int32))))), (q6, .inl (g.2.1 1, 40, .inl (upd fq6_1 (tN (oE j1)) ((-1 : Int32) &&& (F_X10_callable K (tN (pA (tN (oE j1)))) (tN (pH (tN (oE j1))))))))), (v, .inr (10, [.int pe, .int lc, .int de, .ref v3, .ref v4, .ref v5, .ref v6, .ref v7, .ref v8, .ref v9, .ref v10, .ref v11, .ref v12, .ref v13, .int gl, .ref v15])), (v10, .inl (g.2.1 1, 175, .inl K))]) X hW 6 rfl (vp_in_nI (by omega) (by decide)) (f' := (upd fq5_1 (tN (oE j1)) (F_X4_verdictOf (nI (tN (pA (tN (oE j1))))) ((upd fq6_1 (tN (oE j1)) ((-1 : Int32) &&& (F_X10_callable K (tN (pA (tN (oE j1)))) (tN (pH (tN (oE j1))))))) (tN (oE j1))) (0 : Int32)))) (by rw [nI_clamp (by omega)]) rfl dX4_judge_117 (fun H locs hW => ?_)
            refine lv_aload_n (pc := 118) hx hb dX4_judge_118 rfl (lv_at hl 6 rfl) ?_
            refine r_get X hW 0 ciX4 7 rfl (by decide) m_582 rfl rfl dX4_judge_119 ?_
            refine lv_iload (pc := 122) hx hb dX4_judge_122 (lv_at hl 4 rfl) ?_
            refine r_iald X hW 6 rfl (vp_in_nI (by omega) (by decide)) dX4_judge_124 ?_
            refine lv_topi (fun v49 ev49 => ?_)
            obtain rfl : v49 = (upd fq5_1 (tN (oE j1)) (F_X4_verdictOf (nI (tN (pA (tN (oE j1))))) ((upd fq6_1 (tN (oE j1)) ((-1 : Int32) &&& (F_X10_callable K (tN (pA (tN (oE j1)))) (tN (pH (tN (oE j1))))))) (tN (oE j1))) (0 : Int32))) (tN (oE j1)) := ev49.trans (by rw [nI_clamp (by omega)])
            refine lv_if_ne (tgt := 143) (pc := 125) hx hb dX4_judge_125 rfl (fun c50 => ?_) (fun c50 => ?_)
            · refine lv_iinc (v := nI (j1 + 1)) (lv' := [(3, .int (nI (j1 + 1))), (6, .int (-1)), (5, .int (nI (tN (pA (tN (oE j1)))))), (2, .int 0), (1, .int (pH (tN (oE j1)))), (4, .int (nI (tN (oE j1)))), (0, .ref q)]) (pc := 143) hx hb dX4_judge_143 hl (k := 5) rfl (nI_add j1 1) (by decide) rfl (fun ls hl => ?_)
              refine lv_goto (tgt := 6) (pc := 146) hx hb dX4_judge_146 rfl ?_
              exact ih1 (j1 + 1) (0 : Int32) (pH (tN (oE j1))) (upd fq5_1 (tN (oE j1)) (F_X4_verdictOf (nI (tN (pA (tN (oE j1))))) ((upd fq6_1 (tN (oE j1)) ((-1 : Int32) &&& (F_X10_callable K (tN (pA (tN (oE j1)))) (tN (pH (tN (oE j1))))))) (tN (oE j1))) (0 : Int32))) (upd fq6_1 (tN (oE j1)) ((-1 : Int32) &&& (F_X10_callable K (tN (pA (tN (oE j1)))) (tN (pH (tN (oE j1))))))) (by omega) (by omega) (by rw [L1_X4_judge, ← hst1]; exact (show L1_X4_judges pH pK pA pB oE K j1 x2_1 x1_1 fq5_1 fq6_1 = ((0 : Int32), pH (tN (oE j1)), (upd fq5_1 (tN (oE j1)) (F_X4_verdictOf (nI (tN (pA (tN (oE j1))))) ((upd fq6_1 (tN (oE j1)) ((-1 : Int32) &&& (F_X10_callable K (tN (pA (tN (oE j1)))) (tN (pH (tN (oE j1))))))) (tN (oE j1))) (0 : Int32))), (upd fq6_1 (tN (oE j1)) ((-1 : Int32) &&& (F_X10_callable K (tN (pA (tN (oE j1)))) (tN (pH (tN (oE j1)))))))) from by rw [L1_X4_judges, if_neg c6, if_pos c34, if_neg c50]).symm) _ _ _ hW (lv_sub hl [0, 3, 4, 6] rfl)
            · refine lv_iload_n (pc := 128) hx hb dX4_judge_128 rfl (lv_at hl 2 rfl) ?_
              refine lv_iconst (v := 1) (pc := 129) hx hb dX4_judge_129 (by decide) ?_
              refine lv_iload (pc := 130) hx hb dX4_judge_130 (lv_at hl 1 rfl) ?_
              refine lv_ishl (pc := 132) hx hb dX4_judge_132 ?_
              refine lv_aload_n (pc := 133) hx hb dX4_judge_133 rfl (lv_at hl 6 rfl) ?_
              refine r_get X hW 0 ciX4 8 rfl (by decide) m_585 rfl rfl dX4_judge_134 ?_
              refine lv_iload (pc := 137) hx hb dX4_judge_137 (lv_at hl 4 rfl) ?_
              refine r_iald X hW 7 rfl (vp_in_nI (by omega) (by decide)) dX4_judge_139 ?_
              refine lv_topi (fun v53 ev53 => ?_)
              obtain rfl : v53 = (upd fq6_1 (tN (oE j1)) ((-1 : Int32) &&& (F_X10_callable K (tN (pA (tN (oE j1)))) (tN (pH (tN (oE j1))))))) (tN (oE j1)) := ev53.trans (by rw [nI_clamp (by omega)])
              refine lv_ior (pc := 140) hx hb dX4_judge_140 ?_
              refine lv_ior (pc := 141) hx hb dX4_judge_141 ?_
              refine lv_istore_n (lv' := [(2, .int ((0 : Int32) ||| (((1 : Int32) <<< ((nI (tN (pA (tN (oE j1))))) &&& 31)) ||| ((upd fq6_1 (tN (oE j1)) ((-1 : Int32) &&& (F_X10_callable K (tN (pA (tN (oE j1)))) (tN (pH (tN (oE j1))))))) (tN (oE j1)))))), (6, .int (-1)), (5, .int (nI (tN (pA (tN (oE j1)))))), (1, .int (pH (tN (oE j1)))), (4, .int (nI (tN (oE j1)))), (3, .int (nI j1)), (0, .ref q)]) (pc := 142) hx hb dX4_judge_142 rfl hl (by decide) rfl (fun ls hl => ?_)
              refine lv_iinc (v := nI (j1 + 1)) (lv' := [(3, .int (nI (j1 + 1))), (2, .int ((0 : Int32) ||| (((1 : Int32) <<< ((nI (tN (pA (tN (oE j1))))) &&& 31)) ||| ((upd fq6_1 (tN (oE j1)) ((-1 : Int32) &&& (F_X10_callable K (tN (pA (tN (oE j1)))) (tN (pH (tN (oE j1))))))) (tN (oE j1)))))), (6, .int (-1)), (5, .int (nI (tN (pA (tN (oE j1)))))), (1, .int (pH (tN (oE j1)))), (4, .int (nI (tN (oE j1)))), (0, .ref q)]) (pc := 143) hx hb dX4_judge_143 hl (k := 5) rfl (nI_add j1 1) (by decide) rfl (fun ls hl => ?_)
              refine lv_goto (tgt := 6) (pc := 146) hx hb dX4_judge_146 rfl ?_
              exact ih1 (j1 + 1) ((0 : Int32) ||| (((1 : Int32) <<< ((nI (tN (pA (tN (oE j1))))) &&& 31)) ||| ((upd fq6_1 (tN (oE j1)) ((-1 : Int32) &&& (F_X10_callable K (tN (pA (tN (oE j1)))) (tN (pH (tN (oE j1))))))) (tN (oE j1))))) (pH (tN (oE j1))) (upd fq5_1 (tN (oE j1)) (F_X4_verdictOf (nI (tN (pA (tN (oE j1))))) ((upd fq6_1 (tN (oE j1)) ((-1 : Int32) &&& (F_X10_callable K (tN (pA (tN (oE j1)))) (tN (pH (tN (oE j1))))))) (tN (oE j1))) (0 : Int32))) (upd fq6_1 (tN (oE j1)) ((-1 : Int32) &&& (F_X10_callable K (tN (pA (tN (oE j1)))) (tN (pH (tN (oE j1))))))) (by omega) (by omega) (by rw [L1_X4_judge, ← hst1]; exact (show L1_X4_judges pH pK pA pB oE K j1 x2_1 x1_1 fq5_1 fq6_1 = ((0 : Int32) ||| (((1 : Int32) <<< ((nI (tN (pA (tN (oE j1))))) &&& 31)) ||| ((upd fq6_1 (tN (oE j1)) ((-1 : Int32) &&& (F_X10_callable K (tN (pA (tN (oE j1)))) (tN (pH (tN (oE j1))))))) (tN (oE j1)))), pH (tN (oE j1)), (upd fq5_1 (tN (oE j1)) (F_X4_verdictOf (nI (tN (pA (tN (oE j1))))) ((upd fq6_1 (tN (oE j1)) ((-1 : Int32) &&& (F_X10_callable K (tN (pA (tN (oE j1)))) (tN (pH (tN (oE j1))))))) (tN (oE j1))) (0 : Int32))), (upd fq6_1 (tN (oE j1)) ((-1 : Int32) &&& (F_X10_callable K (tN (pA (tN (oE j1)))) (tN (pH (tN (oE j1)))))))) from by rw [L1_X4_judges, if_neg c6, if_pos c34, if_pos c50]).symm) _ _ _ hW (lv_sub hl [0, 1, 4, 6] rfl)
  exact loop1 (pc + 1) 0 (0 : Int32) (0 : Int32) pW pR (by omega) (by omega) rfl _ _ _ hW (lv_sub hl [0, 1, 2, 3] rfl)

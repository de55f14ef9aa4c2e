def oth (o p : Int32) : Int32 := if p < o then p else p + 1
def hasv (a b : Int32) : Int32 := if ((a >>> (b &&& 31)) &&& 1) = 0 then 0 else 1
theorem hasv_0 {a b : Int32} (h : ((a >>> (b &&& 31)) &&& 1) = 0) : 0 = hasv a b := by rw [hasv, if_pos h]
theorem hasv_1 {a b : Int32} (h : ¬ ((a >>> (b &&& 31)) &&& 1) = 0) : 1 = hasv a b := by rw [hasv, if_neg h]
theorem hasv_z (a b : Int32) : narrow .boolean (.int (hasv a b)) = .int (hasv a b) := by unfold hasv; split <;> rfl
theorem mx1 : ∀ n, n < 8 → 2 ≤ n → (if (1 : Int32) < nI (n - 1) then nI (n - 1) else 1) = nI (n - 1) := by decide +kernel
theorem nz1 {n : Nat} (h : 2 ≤ n) (h7 : n ≤ 7) : ¬ lN (n - 1) = 0 := by
  intro q
  have h2 : lN (n - 1) = lN 0 := q
  rw [pk_lEQ (by omega) (by decide)] at h2
  omega
theorem i0 : (0 : Int32).toInt = 0 := by decide
theorem i1 : (1 : Int32).toInt = 1 := by decide
theorem i2 : (2 : Int32).toInt = 2 := by decide
theorem i4 : (4 : Int32).toInt = 4 := by decide
theorem i7 : (7 : Int32).toInt = 7 := by decide
theorem i8 : (8 : Int32).toInt = 8 := by decide
/-- a number within bounds -/
def inv3 (v a b : Int32) : Int32 := if ¬ v < a ∧ ¬ b < v then 1 else 0
theorem inv3_z (v a b : Int32) : narrow .boolean (.int (inv3 v a b)) = .int (inv3 v a b) := by unfold inv3; split <;> rfl
theorem inv3_0 {v a b : Int32} (h : inv3 v a b = 0) : v < a ∨ b < v := by
  by_cases h1 : v < a
  · exact Or.inl h1
  · by_cases h2 : b < v
    · exact Or.inr h2
    · rw [inv3, if_pos ⟨h1, h2⟩] at h; exact absurd h (by decide)
theorem inv3_1 {v a b : Int32} (h : ¬ inv3 v a b = 0) : ¬ v < a ∧ ¬ b < v := by
  by_cases h1 : ¬ v < a ∧ ¬ b < v
  · exact h1
  · rw [inv3, if_neg h1] at h; exact absurd rfl h
theorem m_488 : (Cond.code yX11_has prog_1_method_44_code 2 (Option.some FieldType.boolean)) ∈ BW := bw (tb3 8 rfl) (by decide +kernel)
theorem dX11_has_0 : decode cX11_has 0 = .ok (.iload_n 0, 1) := DX11_has _ _ _ rfl
theorem dX11_has_1 : decode cX11_has 1 = .ok (.iload_n 1, 1) := DX11_has _ _ _ rfl
theorem dX11_has_2 : decode cX11_has 2 = .ok (.ishr, 1) := DX11_has _ _ _ rfl
theorem dX11_has_3 : decode cX11_has 3 = .ok (.iconst 1, 1) := DX11_has _ _ _ rfl
theorem dX11_has_4 : decode cX11_has 4 = .ok (.iand, 1) := DX11_has _ _ _ rfl
theorem dX11_has_5 : decode cX11_has 5 = .ok (.ifCond .eq 7, 3) := DX11_has _ _ _ rfl
theorem dX11_has_12 : decode cX11_has 12 = .ok (.iconst 0, 1) := DX11_has _ _ _ rfl
theorem dX11_has_13 : decode cX11_has 13 = .ok (.ireturn, 1) := DX11_has _ _ _ rfl
theorem dX11_has_8 : decode cX11_has 8 = .ok (.iconst 1, 1) := DX11_has _ _ _ rfl
theorem dX11_has_9 : decode cX11_has 9 = .ok (.goto 4, 3) := DX11_has _ _ _ rfl
theorem m_1093 : (Cond.code yX2_other prog_4_method_5_code 2 (Option.some FieldType.int)) ∈ BW := bw (tb5 133 rfl) (by decide +kernel)
theorem dX2_other_0 : decode cX2_other 0 = .ok (.iload_n 1, 1) := DX2_other _ _ _ rfl
theorem dX2_other_1 : decode cX2_other 1 = .ok (.iload_n 0, 1) := DX2_other _ _ _ rfl
theorem dX2_other_2 : decode cX2_other 2 = .ok (.if_icmp .ge 7, 3) := DX2_other _ _ _ rfl
theorem dX2_other_9 : decode cX2_other 9 = .ok (.iload_n 1, 1) := DX2_other _ _ _ rfl
theorem dX2_other_10 : decode cX2_other 10 = .ok (.iconst 1, 1) := DX2_other _ _ _ rfl
theorem dX2_other_11 : decode cX2_other 11 = .ok (.iadd, 1) := DX2_other _ _ _ rfl
theorem dX2_other_12 : decode cX2_other 12 = .ok (.ireturn, 1) := DX2_other _ _ _ rfl
theorem dX2_other_5 : decode cX2_other 5 = .ok (.iload_n 1, 1) := DX2_other _ _ _ rfl
theorem dX2_other_6 : decode cX2_other 6 = .ok (.goto 6, 3) := DX2_other _ _ _ rfl
theorem m_1466 : (Cond.code yX12_isIn prog_14_method_3_code 3 (Option.some FieldType.boolean)) ∈ BW := bw (tb7 26 rfl) (by decide +kernel)
theorem dX12_isIn_0 : decode cX12_isIn 0 = .ok (.iload_n 0, 1) := DX12_isIn _ _ _ rfl
theorem dX12_isIn_1 : decode cX12_isIn 1 = .ok (.iload_n 1, 1) := DX12_isIn _ _ _ rfl
theorem dX12_isIn_2 : decode cX12_isIn 2 = .ok (.if_icmp .lt 12, 3) := DX12_isIn _ _ _ rfl
theorem dX12_isIn_14 : decode cX12_isIn 14 = .ok (.iconst 0, 1) := DX12_isIn _ _ _ rfl
theorem dX12_isIn_15 : decode cX12_isIn 15 = .ok (.ireturn, 1) := DX12_isIn _ _ _ rfl
theorem dX12_isIn_5 : decode cX12_isIn 5 = .ok (.iload_n 0, 1) := DX12_isIn _ _ _ rfl
theorem dX12_isIn_6 : decode cX12_isIn 6 = .ok (.iload_n 2, 1) := DX12_isIn _ _ _ rfl
theorem dX12_isIn_7 : decode cX12_isIn 7 = .ok (.if_icmp .gt 7, 3) := DX12_isIn _ _ _ rfl
theorem dX12_isIn_10 : decode cX12_isIn 10 = .ok (.iconst 1, 1) := DX12_isIn _ _ _ rfl
theorem dX12_isIn_11 : decode cX12_isIn 11 = .ok (.goto 4, 3) := DX12_isIn _ _ _ rfl
theorem m_1101 : (Cond.code yX2_drawHours prog_4_method_6_code 13 (Option.some FieldType.int)) ∈ BW := bw (tb5 141 rfl) (by decide +kernel)
theorem mms_max : (Cond.static Lib.Math.max.name) ∈ BW := bw (tb4 233 (by decide +kernel)) (by decide +kernel)
theorem mmc_max : (Cond.code Lib.Math.max.name Lib.Math.max.code 2 (some .int)) ∈ BW := bw (tb4 234 rfl) (by decide +kernel)
theorem m_19 : (Cond.initialized "java/lang/Math") ∈ BW := bw (tb1 19 (by decide +kernel)) (by decide +kernel)
theorem m_1102 : (Cond.constantLong "NoonValley$Chance" 47 (6364136223846793005 : Int64)) ∈ BW := bw (tb5 142 (by decide +kernel)) (by decide +kernel)
theorem m_1103 : (Cond.constantLong "NoonValley$Chance" 49 (1442695040888963407 : Int64)) ∈ BW := bw (tb5 143 (by decide +kernel)) (by decide +kernel)
theorem m_1104 : (Cond.methodLinkNest "NoonValley$Chance" 51 yX11_has "NoonValley") ∈ NWS := nw (tb5 144 (by decide +kernel)) (by decide +kernel)
theorem m_487 : (Cond.static yX11_has) ∈ BW := bw (tb3 7 (by decide +kernel)) (by decide +kernel)
theorem vX2_51 : LSN RX2 51 "NoonValley" yX11_has cX11_has 2 (some .boolean) 2 := ⟨m_1104, m_487, m_1, m_488, by decide, by decide, by decide +kernel⟩
theorem m_1091 : (Cond.methodLink "NoonValley$Chance" 38 yX2_other) ∈ BW := bw (tb5 131 (by decide +kernel)) (by decide +kernel)
theorem m_1092 : (Cond.static yX2_other) ∈ BW := bw (tb5 132 (by decide +kernel)) (by decide +kernel)
theorem vX2_38 : LST RX2 38 yX2_other cX2_other 2 (some .int) 2 := ⟨m_1091, m_1092, m_10, m_1093, by decide, by decide, by decide +kernel⟩
theorem m_1098 : (Cond.code yX11_drawn prog_1_method_34_code 5 (Option.some FieldType.int)) ∈ BW := bw (tb5 138 rfl) (by decide +kernel)
theorem m_1099 : (Cond.methodLink "NoonValley" 304 yX2_drawHours) ∈ BW := bw (tb5 139 (by decide +kernel)) (by decide +kernel)
theorem m_1100 : (Cond.static yX2_drawHours) ∈ BW := bw (tb5 140 (by decide +kernel)) (by decide +kernel)
theorem vX11_304 : LST RX11 304 yX2_drawHours cX2_drawHours 13 (some .int) 3 := ⟨m_1099, m_1100, m_10, m_1101, by decide, by decide, by decide +kernel⟩
theorem m_1767 : (Cond.code yX12_drawn prog_14_method_89_code 13 (Option.some FieldType.int)) ∈ BW := bw (tb8 87 rfl) (by decide +kernel)
theorem m_1464 : (Cond.methodLink "NoonValleyModel" 198 yX12_isIn) ∈ BW := bw (tb7 24 (by decide +kernel)) (by decide +kernel)
theorem m_1465 : (Cond.static yX12_isIn) ∈ BW := bw (tb7 25 (by decide +kernel)) (by decide +kernel)
theorem vX12_198 : LST RX12 198 yX12_isIn cX12_isIn 3 (some .boolean) 3 := ⟨m_1464, m_1465, m_12, m_1466, by decide, by decide, by decide +kernel⟩
theorem m_1768 : (Cond.constantLong "NoonValleyModel" 394 (6364136223846793005 : Int64)) ∈ BW := bw (tb8 88 (by decide +kernel)) (by decide +kernel)
theorem m_1769 : (Cond.constantLong "NoonValleyModel" 396 (1442695040888963407 : Int64)) ∈ BW := bw (tb8 89 (by decide +kernel)) (by decide +kernel)
set_option maxHeartbeats 4000000 in
set_option maxRecDepth 100000 in
theorem C_X11_has (l : Launch) (g : GG) (a b : Int32) : MetI l g yX11_has cX11_has 2 (some .boolean) 0 0 0 [.int a, .int b] [] (fun r u => r = hasv a b ∧ u = []) := by
  refine MetI.of (own := RX11) rfl (by decide) (Nat.le_of_ble_eq_true rfl) ?_
  intro p e s m below meth c A ls args Q hQ X hr hin hW hl
  have hx := X.1
  have hb := X.2.1
  have hl : lv_has ls 2 [(0, .int a), (1, .int b)] := hl
  refine lv_iload_n (pc := 0) hx hb dX11_has_0 rfl (lv_at hl 0 rfl) ?_
  refine lv_iload_n (pc := 1) hx hb dX11_has_1 rfl (lv_at hl 1 rfl) ?_
  refine lv_ishr (pc := 2) hx hb dX11_has_2 ?_
  refine lv_iconst (v := 1) (pc := 3) hx hb dX11_has_3 (by decide) ?_
  refine lv_iand (pc := 4) hx hb dX11_has_4 ?_
  refine lv_if_eq (tgt := 12) (pc := 5) hx hb dX11_has_5 rfl (fun c1 => ?_) (fun c1 => ?_)
  · refine lv_iconst (v := 0) (pc := 12) hx hb dX11_has_12 (by decide) ?_
    exact e_z X hQ hr hW (u := []) rfl [] rfl rfl (⟨hasv_0 c1, rfl⟩) ⟨Nat.le_of_ble_eq_true rfl, Nat.le_of_ble_eq_true rfl⟩ dX11_has_13
  · refine lv_iconst (v := 1) (pc := 8) hx hb dX11_has_8 (by decide) ?_
    refine lv_goto (tgt := 13) (pc := 9) hx hb dX11_has_9 rfl ?_
    exact e_z X hQ hr hW (u := []) rfl [] rfl rfl (⟨hasv_1 c1, rfl⟩) ⟨Nat.le_of_ble_eq_true rfl, Nat.le_of_ble_eq_true rfl⟩ dX11_has_13

set_option maxHeartbeats 4000000 in
set_option maxRecDepth 100000 in
theorem C_X2_other (l : Launch) (g : GG) (a b : Int32) : MetI l g yX2_other cX2_other 2 (some .int) 0 0 0 [.int a, .int b] [] (fun r u => r = oth a b ∧ u = []) := by
  refine MetI.of (own := RX2) rfl (by decide) (Nat.le_of_ble_eq_true rfl) ?_
  intro p e s m below meth c A ls args Q hQ X hr hin hW hl
  have hx := X.1
  have hb := X.2.1
  have hl : lv_has ls 2 [(0, .int a), (1, .int b)] := hl
  refine lv_iload_n (pc := 0) hx hb dX2_other_0 rfl (lv_at hl 1 rfl) ?_
  refine lv_iload_n (pc := 1) hx hb dX2_other_1 rfl (lv_at hl 0 rfl) ?_
  refine lv_icmp_ge (tgt := 9) (pc := 2) hx hb dX2_other_2 rfl (fun c1 => ?_) (fun c1 => ?_)
  · refine lv_iload_n (pc := 9) hx hb dX2_other_9 rfl (lv_at hl 1 rfl) ?_
    refine lv_iconst (v := 1) (pc := 10) hx hb dX2_other_10 (by decide) ?_
    refine lv_iadd (pc := 11) hx hb dX2_other_11 ?_
    exact e_i X hQ hr hW (u := []) [] rfl rfl (⟨(if_neg (fun h9 => (Int32.not_le.mpr h9) c1)).symm, rfl⟩) ⟨Nat.le_of_ble_eq_true rfl, Nat.le_of_ble_eq_true rfl⟩ dX2_other_12
  · refine lv_iload_n (pc := 5) hx hb dX2_other_5 rfl (lv_at hl 1 rfl) ?_
    refine lv_goto (tgt := 12) (pc := 6) hx hb dX2_other_6 rfl ?_
    exact e_i X hQ hr hW (u := []) [] rfl rfl (⟨(if_pos (fa_of_nle c1)).symm, rfl⟩) ⟨Nat.le_of_ble_eq_true rfl, Nat.le_of_ble_eq_true rfl⟩ dX2_other_12

set_option maxHeartbeats 4000000 in
set_option maxRecDepth 100000 in
theorem C_X12_isIn (l : Launch) (g : GG) (v a b : Int32) : MetI l g yX12_isIn cX12_isIn 3 (some .boolean) 0 0 0 [.int v, .int a, .int b] [] (fun r u => r = inv3 v a b ∧ u = []) := by
  refine MetI.of (own := RX12) rfl (by decide) (Nat.le_of_ble_eq_true rfl) ?_
  intro p e s m below meth c A ls args Q hQ X hr hin hW hl
  have hx := X.1
  have hb := X.2.1
  have hl : lv_has ls 3 [(0, .int v), (1, .int a), (2, .int b)] := hl
  refine lv_iload_n (pc := 0) hx hb dX12_isIn_0 rfl (lv_at hl 0 rfl) ?_
  refine lv_iload_n (pc := 1) hx hb dX12_isIn_1 rfl (lv_at hl 1 rfl) ?_
  refine lv_icmp_lt (tgt := 14) (pc := 2) hx hb dX12_isIn_2 rfl (fun c1 => ?_) (fun c1 => ?_)
  · refine lv_iconst (v := 0) (pc := 14) hx hb dX12_isIn_14 (by decide) ?_
    exact e_z X hQ hr hW (u := []) rfl [] rfl rfl (⟨(if_neg (fun h9 => by first | exact h9.1 c1 | exact h9.2 c1)).symm, rfl⟩) ⟨Nat.le_of_ble_eq_true rfl, Nat.le_of_ble_eq_true rfl⟩ dX12_isIn_15
  · have hg := c1
    refine lv_iload_n (pc := 5) hx hb dX12_isIn_5 rfl (lv_at hl 0 rfl) ?_
    refine lv_iload_n (pc := 6) hx hb dX12_isIn_6 rfl (lv_at hl 2 rfl) ?_
    refine lv_icmp_gt (tgt := 14) (pc := 7) hx hb dX12_isIn_7 rfl (fun c2 => ?_) (fun c2 => ?_)
    · refine lv_iconst (v := 0) (pc := 14) hx hb dX12_isIn_14 (by decide) ?_
      exact e_z X hQ hr hW (u := []) rfl [] rfl rfl (⟨(if_neg (fun h9 => by first | exact h9.1 c2 | exact h9.2 c2)).symm, rfl⟩) ⟨Nat.le_of_ble_eq_true rfl, Nat.le_of_ble_eq_true rfl⟩ dX12_isIn_15
    · refine lv_iconst (v := 1) (pc := 10) hx hb dX12_isIn_10 (by decide) ?_
      refine lv_goto (tgt := 15) (pc := 11) hx hb dX12_isIn_11 rfl ?_
      exact e_z X hQ hr hW (u := []) rfl [] rfl rfl (⟨(if_pos ⟨hg, c2⟩).symm, rfl⟩) ⟨Nat.le_of_ble_eq_true rfl, Nat.le_of_ble_eq_true rfl⟩ dX12_isIn_15

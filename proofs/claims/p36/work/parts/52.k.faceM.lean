theorem dX12_isNews_0 : decode cX12_isNews 0 = .ok (.iload_n 0, 1) := DX12_isNews _ _ _ rfl
theorem dX12_isNews_1 : decode cX12_isNews 1 = .ok (.iconst 0, 1) := DX12_isNews _ _ _ rfl
theorem dX12_isNews_2 : decode cX12_isNews 2 = .ok (.iconst 3, 1) := DX12_isNews _ _ _ rfl
theorem dX12_isNews_3 : decode cX12_isNews 3 = .ok (.invokestatic 198, 3) := DX12_isNews _ _ _ rfl
theorem dX12_isNews_6 : decode cX12_isNews 6 = .ok (.ireturn, 1) := DX12_isNews _ _ _ rfl
theorem dX12_isHour_0 : decode cX12_isHour 0 = .ok (.iload_n 0, 1) := DX12_isHour _ _ _ rfl
theorem dX12_isHour_1 : decode cX12_isHour 1 = .ok (.iconst 1, 1) := DX12_isHour _ _ _ rfl
theorem dX12_isHour_2 : decode cX12_isHour 2 = .ok (.bipush 24, 2) := DX12_isHour _ _ _ rfl
theorem dX12_isHour_4 : decode cX12_isHour 4 = .ok (.invokestatic 198, 3) := DX12_isHour _ _ _ rfl
theorem dX12_isHour_7 : decode cX12_isHour 7 = .ok (.ireturn, 1) := DX12_isHour _ _ _ rfl
theorem dX12_isPlan_12 : decode cX12_isPlan 12 = .ok (.iconst 1, 1) := DX12_isPlan _ _ _ rfl
theorem dX12_isPlan_13 : decode cX12_isPlan 13 = .ok (.goto 4, 3) := DX12_isPlan _ _ _ rfl
theorem dX12_blank_15 : decode cX12_blank 15 = .ok (.iconst 0, 1) := DX12_blank _ _ _ rfl
theorem dX12_blank_16 : decode cX12_blank 16 = .ok (.istore_n 2, 1) := DX12_blank _ _ _ rfl
theorem dX12_blank_17 : decode cX12_blank 17 = .ok (.iload_n 2, 1) := DX12_blank _ _ _ rfl
theorem dX12_blank_18 : decode cX12_blank 18 = .ok (.bipush 7, 2) := DX12_blank _ _ _ rfl
theorem dX12_blank_20 : decode cX12_blank 20 = .ok (.if_icmp .ge 21, 3) := DX12_blank _ _ _ rfl
theorem dX12_blank_41 : decode cX12_blank 41 = .ok (.iconst 1, 1) := DX12_blank _ _ _ rfl
theorem dX12_blank_42 : decode cX12_blank 42 = .ok (.ireturn, 1) := DX12_blank _ _ _ rfl
theorem dX12_blank_23 : decode cX12_blank 23 = .ok (.aload_n 0, 1) := DX12_blank _ _ _ rfl
theorem dX12_blank_24 : decode cX12_blank 24 = .ok (.getfield 126, 3) := DX12_blank _ _ _ rfl
theorem dX12_blank_27 : decode cX12_blank 27 = .ok (.bipush 7, 2) := DX12_blank _ _ _ rfl
theorem dX12_blank_29 : decode cX12_blank 29 = .ok (.iload_n 1, 1) := DX12_blank _ _ _ rfl
theorem dX12_blank_30 : decode cX12_blank 30 = .ok (.imul, 1) := DX12_blank _ _ _ rfl
theorem dX12_blank_31 : decode cX12_blank 31 = .ok (.iload_n 2, 1) := DX12_blank _ _ _ rfl
theorem dX12_blank_32 : decode cX12_blank 32 = .ok (.iadd, 1) := DX12_blank _ _ _ rfl
theorem dX12_blank_33 : decode cX12_blank 33 = .ok (.iconst 0, 1) := DX12_blank _ _ _ rfl
theorem dX12_blank_34 : decode cX12_blank 34 = .ok (.iastore, 1) := DX12_blank _ _ _ rfl
theorem dX12_blank_35 : decode cX12_blank 35 = .ok (.iinc 2 1, 3) := DX12_blank _ _ _ rfl
theorem dX12_blank_38 : decode cX12_blank 38 = .ok (.goto (-21), 3) := DX12_blank _ _ _ rfl
theorem dX12_plan_24 : decode cX12_plan 24 = .ok (.aload_n 0, 1) := DX12_plan _ _ _ rfl
theorem dX12_plan_25 : decode cX12_plan 25 = .ok (.getfield 58, 3) := DX12_plan _ _ _ rfl
theorem dX12_plan_28 : decode cX12_plan 28 = .ok (.aload_n 0, 1) := DX12_plan _ _ _ rfl
theorem dX12_plan_29 : decode cX12_plan 29 = .ok (.getfield 244, 3) := DX12_plan _ _ _ rfl
theorem dX12_plan_32 : decode cX12_plan 32 = .ok (.iload_n 1, 1) := DX12_plan _ _ _ rfl
theorem dX12_plan_33 : decode cX12_plan 33 = .ok (.iastore, 1) := DX12_plan _ _ _ rfl
theorem dX12_plan_34 : decode cX12_plan 34 = .ok (.aload_n 0, 1) := DX12_plan _ _ _ rfl
theorem dX12_plan_35 : decode cX12_plan 35 = .ok (.getfield 61, 3) := DX12_plan _ _ _ rfl
theorem dX12_plan_38 : decode cX12_plan 38 = .ok (.aload_n 0, 1) := DX12_plan _ _ _ rfl
theorem dX12_plan_39 : decode cX12_plan 39 = .ok (.getfield 244, 3) := DX12_plan _ _ _ rfl
theorem dX12_plan_42 : decode cX12_plan 42 = .ok (.iconst 0, 1) := DX12_plan _ _ _ rfl
theorem dX12_plan_43 : decode cX12_plan 43 = .ok (.iastore, 1) := DX12_plan _ _ _ rfl
theorem dX12_plan_44 : decode cX12_plan 44 = .ok (.aload_n 0, 1) := DX12_plan _ _ _ rfl
theorem dX12_plan_45 : decode cX12_plan 45 = .ok (.dup, 1) := DX12_plan _ _ _ rfl
theorem dX12_plan_46 : decode cX12_plan 46 = .ok (.getfield 244, 3) := DX12_plan _ _ _ rfl
theorem dX12_plan_49 : decode cX12_plan 49 = .ok (.iconst 1, 1) := DX12_plan _ _ _ rfl
theorem dX12_plan_50 : decode cX12_plan 50 = .ok (.iadd, 1) := DX12_plan _ _ _ rfl
theorem dX12_plan_51 : decode cX12_plan 51 = .ok (.putfield 244, 3) := DX12_plan _ _ _ rfl
theorem dX12_plan_54 : decode cX12_plan 54 = .ok (.aload_n 0, 1) := DX12_plan _ _ _ rfl
theorem dX12_plan_55 : decode cX12_plan 55 = .ok (.getfield 244, 3) := DX12_plan _ _ _ rfl
theorem dX12_plan_58 : decode cX12_plan 58 = .ok (.iconst 1, 1) := DX12_plan _ _ _ rfl
theorem dX12_plan_59 : decode cX12_plan 59 = .ok (.isub, 1) := DX12_plan _ _ _ rfl
theorem dX12_plan_60 : decode cX12_plan 60 = .ok (.ireturn, 1) := DX12_plan _ _ _ rfl
def F_X12_isIn (x : Int32) (y : Int32) (z : Int32) : Int32 := if x < y then ((0 : Int32)) else (if z < x then ((0 : Int32)) else ((1 : Int32)))
theorem F_X12_isIn_z {x : Int32} {y : Int32} {z : Int32} : narrow .boolean (.int (F_X12_isIn x y z)) = .int (F_X12_isIn x y z) := by unfold F_X12_isIn; (repeat' split) <;> first | rfl | (dsimp only; rfl)
set_option maxHeartbeats 4000000 in
set_option maxRecDepth 100000 in
theorem K_X12_isIn (l : Launch) (g : GG) (x : Int32) (y : Int32) (z : Int32)  : MetI l g yX12_isIn cX12_isIn 3 (some .boolean) 0 0 0 [.int x, .int y, .int z] [] (fun r u => r = (F_X12_isIn x y z) ∧ u = []) := by
  refine MetI.of (own := RX12) rfl (by decide) (Nat.le_of_ble_eq_true rfl) ?_
  intro p e s m below meth c A ls args Q hQ X hr hin hW hl
  have hx := X.1
  have hb := X.2.1
  have hl : lv_has ls 3 [(0, .int x), (1, .int y), (2, .int z)] := hl
  refine lv_iload_n (pc := 0) hx hb dX12_isIn_0 rfl (lv_at hl 0 rfl) ?_
  refine lv_iload_n (pc := 1) hx hb dX12_isIn_1 rfl (lv_at hl 1 rfl) ?_
  refine lv_icmp_lt (tgt := 14) (pc := 2) hx hb dX12_isIn_2 rfl (fun c1 => ?_) (fun c1 => ?_)
  · refine lv_iconst (v := 0) (pc := 14) hx hb dX12_isIn_14 (by decide) ?_
    have hF : F_X12_isIn x y z = (0 : Int32) := show F_X12_isIn x y z = (0 : Int32) from by rw [F_X12_isIn, if_pos c1]
    exact e_z (u := []) X hQ hr (hW) rfl [] rfl rfl (⟨hF.symm, rfl⟩) ⟨Nat.le_of_ble_eq_true rfl, Nat.le_of_ble_eq_true rfl⟩ dX12_isIn_15
  · refine lv_iload_n (pc := 5) hx hb dX12_isIn_5 rfl (lv_at hl 0 rfl) ?_
    refine lv_iload_n (pc := 6) hx hb dX12_isIn_6 rfl (lv_at hl 2 rfl) ?_
    refine lv_icmp_gt (tgt := 14) (pc := 7) hx hb dX12_isIn_7 rfl (fun c4 => ?_) (fun c4 => ?_)
    · refine lv_iconst (v := 0) (pc := 14) hx hb dX12_isIn_14 (by decide) ?_
      have hF : F_X12_isIn x y z = (0 : Int32) := show F_X12_isIn x y z = (0 : Int32) from by rw [F_X12_isIn, if_neg c1, if_pos c4]
      exact e_z (u := []) X hQ hr (hW) rfl [] rfl rfl (⟨hF.symm, rfl⟩) ⟨Nat.le_of_ble_eq_true rfl, Nat.le_of_ble_eq_true rfl⟩ dX12_isIn_15
    · refine lv_iconst (v := 1) (pc := 10) hx hb dX12_isIn_10 (by decide) ?_
      refine lv_goto (tgt := 15) (pc := 11) hx hb dX12_isIn_11 rfl ?_
      have hF : F_X12_isIn x y z = (1 : Int32) := show F_X12_isIn x y z = (1 : Int32) from by rw [F_X12_isIn, if_neg c1, if_neg c4]
      exact e_z (u := []) X hQ hr (hW) rfl [] rfl rfl (⟨hF.symm, rfl⟩) ⟨Nat.le_of_ble_eq_true rfl, Nat.le_of_ble_eq_true rfl⟩ dX12_isIn_15

def F_X12_isNews (x : Int32) : Int32 := F_X12_isIn x (0 : Int32) (3 : Int32)
set_option maxHeartbeats 4000000 in
set_option maxRecDepth 100000 in
theorem K_X12_isNews (l : Launch) (g : GG) (x : Int32)  : MetI l g yX12_isNews cX12_isNews 1 (some .boolean) 1 0 0 [.int x] [] (fun r u => r = (F_X12_isNews x) ∧ u = []) := by
  refine MetI.of (own := RX12) rfl (by decide) (Nat.le_of_ble_eq_true rfl) ?_
  intro p e s m below meth c A ls args Q hQ X hr hin hW hl
  have hx := X.1
  have hb := X.2.1
  have hl : lv_has ls 1 [(0, .int x)] := hl
  refine lv_iload_n (pc := 0) hx hb dX12_isNews_0 rfl (lv_at hl 0 rfl) ?_
  refine lv_iconst (v := 0) (pc := 1) hx hb dX12_isNews_1 (by decide) ?_
  refine lv_iconst (v := 3) (pc := 2) hx hb dX12_isNews_2 (by decide) ?_
  refine c_Si (pc := 3) (As := [.int x, .int 0, .int 3]) (rest := []) (wr := []) X hW (K_X12_isIn l g x (0 : Int32) (3 : Int32)) vX12_198 [] [] rfl rfl rfl rfl rfl rfl hl.1 rfl (Nat.le_of_ble_eq_true rfl) ⟨Nat.le_of_ble_eq_true rfl, Nat.le_of_ble_eq_true rfl⟩ ⟨Nat.le_of_ble_eq_true rfl, Nat.le_of_ble_eq_true rfl⟩ dX12_isNews_3 (fun r1 u9 H locs hq hW => ?_)
  obtain ⟨rfl, rfl⟩ := hq
  have hW : WD g A s _ _ [] := hW
  have hF : F_X12_isNews x = F_X12_isIn x (0 : Int32) (3 : Int32) := show F_X12_isNews x = F_X12_isIn x (0 : Int32) (3 : Int32) from rfl
  exact e_z (u := []) X hQ hr (hW) (F_X12_isIn_z ..) [] rfl rfl (⟨hF.symm, rfl⟩) ⟨Nat.le_of_ble_eq_true rfl, Nat.le_of_ble_eq_true rfl⟩ dX12_isNews_6

def F_X12_isHour (x : Int32) : Int32 := F_X12_isIn x (1 : Int32) (24 : Int32)
set_option maxHeartbeats 4000000 in
set_option maxRecDepth 100000 in
theorem K_X12_isHour (l : Launch) (g : GG) (x : Int32)  : MetI l g yX12_isHour cX12_isHour 1 (some .boolean) 1 0 0 [.int x] [] (fun r u => r = (F_X12_isHour x) ∧ u = []) := by
  refine MetI.of (own := RX12) rfl (by decide) (Nat.le_of_ble_eq_true rfl) ?_
  intro p e s m below meth c A ls args Q hQ X hr hin hW hl
  have hx := X.1
  have hb := X.2.1
  have hl : lv_has ls 1 [(0, .int x)] := hl
  refine lv_iload_n (pc := 0) hx hb dX12_isHour_0 rfl (lv_at hl 0 rfl) ?_
  refine lv_iconst (v := 1) (pc := 1) hx hb dX12_isHour_1 (by decide) ?_
  refine lv_bipush (v := 24) (pc := 2) hx hb dX12_isHour_2 (by decide) ?_
  refine c_Si (pc := 4) (As := [.int x, .int 1, .int 24]) (rest := []) (wr := []) X hW (K_X12_isIn l g x (1 : Int32) (24 : Int32)) vX12_198 [] [] rfl rfl rfl rfl rfl rfl hl.1 rfl (Nat.le_of_ble_eq_true rfl) ⟨Nat.le_of_ble_eq_true rfl, Nat.le_of_ble_eq_true rfl⟩ ⟨Nat.le_of_ble_eq_true rfl, Nat.le_of_ble_eq_true rfl⟩ dX12_isHour_4 (fun r1 u9 H locs hq hW => ?_)
  obtain ⟨rfl, rfl⟩ := hq
  have hW : WD g A s _ _ [] := hW
  have hF : F_X12_isHour x = F_X12_isIn x (1 : Int32) (24 : Int32) := show F_X12_isHour x = F_X12_isIn x (1 : Int32) (24 : Int32) from rfl
  exact e_z (u := []) X hQ hr (hW) (F_X12_isIn_z ..) [] rfl rfl (⟨hF.symm, rfl⟩) ⟨Nat.le_of_ble_eq_true rfl, Nat.le_of_ble_eq_true rfl⟩ dX12_isHour_7

def F_X12_isValley (nv : Nat) (x : Int32) : Int32 := if x < 0 then ((0 : Int32)) else (if nI nv ≤ x then ((0 : Int32)) else ((1 : Int32)))
set_option maxHeartbeats 4000000 in
set_option maxRecDepth 100000 in
theorem K_X12_isValley (l : Launch) (g : GG) (h0 : Nat) (vs : List Value) (nv : Nat) (x : Int32) (hlen : vs.length = 64) (h18_ : vs[18]? = some (.int (nI nv))) : MetI l g yX12_isValley cX12_isValley 2 (some .boolean) 0 0 0 [.ref h0, .int x] [(h0, .inr (12, vs))] (fun r u => r = (F_X12_isValley nv x) ∧ u = [(h0, .inr (12, vs))]) := by
  refine MetI.of (own := RX12) rfl (by decide) (Nat.le_of_ble_eq_true rfl) ?_
  intro p e s m below meth c A ls args Q hQ X hr hin hW hl
  have hx := X.1
  have hb := X.2.1
  have hl : lv_has ls 2 [(0, .ref h0), (1, .int x)] := hl
  refine lv_iload_n (pc := 0) hx hb dX12_isValley_0 rfl (lv_at hl 1 rfl) ?_
  refine lv_if_lt (tgt := 16) (pc := 1) hx hb dX12_isValley_1 rfl (fun c1 => ?_) (fun c1 => ?_)
  · refine lv_iconst (v := 0) (pc := 16) hx hb dX12_isValley_16 (by decide) ?_
    have hF : F_X12_isValley nv x = (0 : Int32) := show F_X12_isValley nv x = (0 : Int32) from by rw [F_X12_isValley, if_pos c1]
    exact e_z (u := [(h0, .inr (12, vs))]) X hQ hr (hW) rfl [0] rfl rfl (⟨hF.symm, rfl⟩) ⟨Nat.le_of_ble_eq_true rfl, Nat.le_of_ble_eq_true rfl⟩ dX12_isValley_17
  · refine lv_iload_n (pc := 4) hx hb dX12_isValley_4 rfl (lv_at hl 1 rfl) ?_
    refine lv_aload_n (pc := 5) hx hb dX12_isValley_5 rfl (lv_at hl 0 rfl) ?_
    refine r_get X hW 0 ciX12 18 rfl (by decide) m_1249 rfl h18_ dX12_isValley_6 ?_
    refine lv_icmp_ge (tgt := 16) (pc := 9) hx hb dX12_isValley_9 rfl (fun c4 => ?_) (fun c4 => ?_)
    · refine lv_iconst (v := 0) (pc := 16) hx hb dX12_isValley_16 (by decide) ?_
      have hF : F_X12_isValley nv x = (0 : Int32) := show F_X12_isValley nv x = (0 : Int32) from by rw [F_X12_isValley, if_neg c1, if_pos c4]
      exact e_z (u := [(h0, .inr (12, vs))]) X hQ hr (hW) rfl [0] rfl rfl (⟨hF.symm, rfl⟩) ⟨Nat.le_of_ble_eq_true rfl, Nat.le_of_ble_eq_true rfl⟩ dX12_isValley_17
    · refine lv_iconst (v := 1) (pc := 12) hx hb dX12_isValley_12 (by decide) ?_
      refine lv_goto (tgt := 17) (pc := 13) hx hb dX12_isValley_13 rfl ?_
      have hF : F_X12_isValley nv x = (1 : Int32) := show F_X12_isValley nv x = (1 : Int32) from by rw [F_X12_isValley, if_neg c1, if_neg c4]
      exact e_z (u := [(h0, .inr (12, vs))]) X hQ hr (hW) rfl [0] rfl rfl (⟨hF.symm, rfl⟩) ⟨Nat.le_of_ble_eq_true rfl, Nat.le_of_ble_eq_true rfl⟩ dX12_isValley_17

def F_X12_isPlan (np : Nat) (x : Int32) : Int32 := if x < 0 then ((0 : Int32)) else (if nI np ≤ x then ((0 : Int32)) else ((1 : Int32)))
set_option maxHeartbeats 4000000 in
set_option maxRecDepth 100000 in
theorem K_X12_isPlan (l : Launch) (g : GG) (h0 : Nat) (vs : List Value) (np : Nat) (x : Int32) (hlen : vs.length = 64) (h27_ : vs[27]? = some (.int (nI np))) : MetI l g yX12_isPlan cX12_isPlan 2 (some .boolean) 0 0 0 [.ref h0, .int x] [(h0, .inr (12, vs))] (fun r u => r = (F_X12_isPlan np x) ∧ u = [(h0, .inr (12, vs))]) := by
  refine MetI.of (own := RX12) rfl (by decide) (Nat.le_of_ble_eq_true rfl) ?_
  intro p e s m below meth c A ls args Q hQ X hr hin hW hl
  have hx := X.1
  have hb := X.2.1
  have hl : lv_has ls 2 [(0, .ref h0), (1, .int x)] := hl
  refine lv_iload_n (pc := 0) hx hb dX12_isPlan_0 rfl (lv_at hl 1 rfl) ?_
  refine lv_if_lt (tgt := 16) (pc := 1) hx hb dX12_isPlan_1 rfl (fun c1 => ?_) (fun c1 => ?_)
  · refine lv_iconst (v := 0) (pc := 16) hx hb dX12_isPlan_16 (by decide) ?_
    have hF : F_X12_isPlan np x = (0 : Int32) := show F_X12_isPlan np x = (0 : Int32) from by rw [F_X12_isPlan, if_pos c1]
    exact e_z (u := [(h0, .inr (12, vs))]) X hQ hr (hW) rfl [0] rfl rfl (⟨hF.symm, rfl⟩) ⟨Nat.le_of_ble_eq_true rfl, Nat.le_of_ble_eq_true rfl⟩ dX12_isPlan_17
  · refine lv_iload_n (pc := 4) hx hb dX12_isPlan_4 rfl (lv_at hl 1 rfl) ?_
    refine lv_aload_n (pc := 5) hx hb dX12_isPlan_5 rfl (lv_at hl 0 rfl) ?_
    refine r_get X hW 0 ciX12 27 rfl (by decide) m_1258 rfl h27_ dX12_isPlan_6 ?_
    refine lv_icmp_ge (tgt := 16) (pc := 9) hx hb dX12_isPlan_9 rfl (fun c4 => ?_) (fun c4 => ?_)
    · refine lv_iconst (v := 0) (pc := 16) hx hb dX12_isPlan_16 (by decide) ?_
      have hF : F_X12_isPlan np x = (0 : Int32) := show F_X12_isPlan np x = (0 : Int32) from by rw [F_X12_isPlan, if_neg c1, if_pos c4]
      exact e_z (u := [(h0, .inr (12, vs))]) X hQ hr (hW) rfl [0] rfl rfl (⟨hF.symm, rfl⟩) ⟨Nat.le_of_ble_eq_true rfl, Nat.le_of_ble_eq_true rfl⟩ dX12_isPlan_17
    · refine lv_iconst (v := 1) (pc := 12) hx hb dX12_isPlan_12 (by decide) ?_
      refine lv_goto (tgt := 17) (pc := 13) hx hb dX12_isPlan_13 rfl ?_
      have hF : F_X12_isPlan np x = (1 : Int32) := show F_X12_isPlan np x = (1 : Int32) from by rw [F_X12_isPlan, if_neg c1, if_neg c4]
      exact e_z (u := [(h0, .inr (12, vs))]) X hQ hr (hW) rfl [0] rfl rfl (⟨hF.symm, rfl⟩) ⟨Nat.le_of_ble_eq_true rfl, Nat.le_of_ble_eq_true rfl⟩ dX12_isPlan_17

theorem in_at {x y z : Int32} (h : ¬ F_X12_isIn x y z = 0) : y ≤ x ∧ x ≤ z := by
  unfold F_X12_isIn at h
  by_cases h1 : x < y
  · rw [if_pos h1] at h; exact absurd rfl h
  · rw [if_neg h1] at h
    by_cases h2 : z < x
    · rw [if_pos h2] at h; exact absurd rfl h
    · exact ⟨Int32.not_lt.mp h1, Int32.not_lt.mp h2⟩
theorem rv_at {x : Int32} {n : Nat} (hn : n < 2 ^ 31) (h : ¬ F_X12_isValley n x = 0) : x = nI (tN x) ∧ tN x < n := by
  unfold F_X12_isValley at h
  by_cases h1 : x < 0
  · rw [if_pos h1] at h; exact absurd rfl h
  · rw [if_neg h1] at h
    by_cases h2 : nI n ≤ x
    · rw [if_pos h2] at h; exact absurd rfl h
    · exact tN_in hn (Int32.not_lt.mp h1) (Int32.not_le.mp h2)
theorem rp_at {x : Int32} {n : Nat} (hn : n < 2 ^ 31) (h : ¬ F_X12_isPlan n x = 0) : x = nI (tN x) ∧ tN x < n := by
  unfold F_X12_isPlan at h
  by_cases h1 : x < 0
  · rw [if_pos h1] at h; exact absurd rfl h
  · rw [if_neg h1] at h
    by_cases h2 : nI n ≤ x
    · rw [if_pos h2] at h; exact absurd rfl h
    · exact tN_in hn (Int32.not_lt.mp h1) (Int32.not_le.mp h2)

def L1_X12_blanks (x : Int32) (j1 : Nat) (fb53_1 : Nat → Int32) : (Nat → Int32) := (upd fb53_1 (7 * (tN x) + j1) (0 : Int32))
def L1_X12_blank (x : Int32) (i0_ : Nat → Int32) : Nat → (Nat → Int32)
  | 0 => (i0_)
  | k_ + 1 => L1_X12_blanks x k_ (L1_X12_blank x i0_ k_)
def F_X12_blank (nv : Nat) (cL : Nat → Int32) (x : Int32) : Int32 × (Nat → Int32) := if F_X12_isValley nv x = 0 then (((0 : Int32), cL)) else (((1 : Int32), (L1_X12_blank x cL 7)))
set_option maxHeartbeats 4000000 in
set_option maxRecDepth 100000 in
theorem K_X12_blank (l : Launch) (g : GG) (h0 : Nat) (vs : List Value) (nv : Nat) (b53 : Nat) (cL : Nat → Int32) (x : Int32) (hlen : vs.length = 64) (h18_ : vs[18]? = some (.int (nI nv))) (h53_ : vs[53]? = some (.ref b53)) (hn : nv ≤ 10) : MetI l g yX12_blank cX12_blank 3 (some .boolean) 1 0 0 [.ref h0, .int x] [(h0, .inr (12, vs)), (b53, .inl (g.2.1 1, 77, .inl cL))] (fun r u => r = (F_X12_blank nv cL x).1 ∧ u = [(h0, .inr (12, (vs.set 0 (.int 0)))), (b53, .inl (g.2.1 1, 77, .inl ((F_X12_blank nv cL x).2)))]) := by
  refine MetI.of (own := RX12) rfl (by decide) (Nat.le_of_ble_eq_true rfl) ?_
  intro p e s m below meth c A ls args Q hQ X hr hin hW hl
  have hx := X.1
  have hb := X.2.1
  have hl : lv_has ls 3 [(0, .ref h0), (1, .int x)] := hl
  refine lv_aload_n (pc := 0) hx hb dX12_blank_0 rfl (lv_at hl 0 rfl) ?_
  refine lv_iconst (v := 0) (pc := 1) hx hb dX12_blank_1 (by decide) ?_
  refine r_put (ws' := [(h0, .inr (12, (vs.set 0 (.int 0)))), (b53, .inl (g.2.1 1, 77, .inl cL))]) X hW 0 ciX12 0 rfl (by decide) m_1231 rfl rfl rfl rfl (sv_lt (by decide) hlen) rfl dX12_blank_2 (fun H locs hW => ?_)
  refine lv_aload_n (pc := 5) hx hb dX12_blank_5 rfl (lv_at hl 0 rfl) ?_
  refine lv_iload_n (pc := 6) hx hb dX12_blank_6 rfl (lv_at hl 1 rfl) ?_
  refine c_Vi (pc := 7) (As := [.int x]) (rest := []) (wr := [(b53, .inl (g.2.1 1, 77, .inl cL))]) X hW 0 ciX12 rfl (K_X12_isValley l g h0 (vs.set 0 (.int 0)) nv x (sv_len hlen) (sv_ne (k := 0) (by decide) h18_)) vX12_221 [0] [1] rfl rfl rfl rfl rfl rfl hl.1 rfl (Nat.le_of_ble_eq_true rfl) ⟨Nat.le_of_ble_eq_true rfl, Nat.le_of_ble_eq_true rfl⟩ ⟨Nat.le_of_ble_eq_true rfl, Nat.le_of_ble_eq_true rfl⟩ dX12_blank_7 (fun r1 u9 H locs hq hW => ?_)
  obtain ⟨rfl, rfl⟩ := hq
  have hW : WD g A s _ _ [(b53, .inl (g.2.1 1, 77, .inl cL)), (h0, .inr (12, (vs.set 0 (.int 0))))] := hW
  refine lv_if_ne (tgt := 15) (pc := 10) hx hb dX12_blank_10 rfl (fun c2 => ?_) (fun c2 => ?_)
  · have hvx := rv_at (n := nv) (by omega) c2
    have hvx2 := hvx.2
    rw [hvx.1] at hl
    refine lv_iconst (v := 0) (pc := 15) hx hb dX12_blank_15 (by decide) ?_
    refine lv_istore_n (lv' := [(2, .int 0), (0, .ref h0), (1, .int (nI (tN x)))]) (pc := 16) hx hb dX12_blank_16 rfl hl (by decide) rfl (fun ls hl => ?_)
    have loop1 : ∀ (fu1 : Nat) (j1 : Nat) (fb53_1 : Nat → Int32), (7 < fu1 + j1) → (j1 ≤ 7) → (fb53_1 = L1_X12_blank x cL j1) → ∀ (H : Heap) (locs : List Loc) (ls : Array Slot), WD g A s H locs [(b53, .inl (g.2.1 1, 77, .inl fb53_1)), (h0, .inr (12, (vs.set 0 (.int 0))))] → lv_has ls 3 [(2, .int (nI j1)), (0, .ref h0), (1, .int (nI (tN x)))] → W p l e (RM 1 0 0) s m args below meth c H locs 0 0 Q (F0 m 17 ls []) := by
      intro fu1
      induction fu1 with
      | zero =>
        intro j1 fb53_1 hm1 hj1 hst1
        exact absurd hm1 (by omega)
      | succ fu1 ih1 =>
        intro j1 fb53_1 hm1 hj1 hst1 H locs ls hW hl
        refine lv_iload_n (pc := 17) hx hb dX12_blank_17 rfl (lv_at hl 0 rfl) ?_
        refine lv_bipush (v := 7) (pc := 18) hx hb dX12_blank_18 (by decide) ?_
        refine lv_icmp_ge (tgt := 41) (pc := 20) hx hb dX12_blank_20 rfl (fun c4 => ?_) (fun c4 => ?_)
        · have h5 : 7 ≤ j1 := (nI_leI (a := 7) (b := j1) (by omega) (by omega)).mp c4
          have hN1 : j1 = 7 := by omega
          rw [hN1] at hst1
          subst hst1
          have hW : WD g A s _ _ [(b53, .inl (g.2.1 1, 77, .inl (L1_X12_blank x cL 7))), (h0, .inr (12, (vs.set 0 (.int 0))))] := hW
          refine lv_iconst (v := 1) (pc := 41) hx hb dX12_blank_41 (by decide) ?_
          have hF : F_X12_blank nv cL x = ((1 : Int32), (L1_X12_blank x cL 7)) := show F_X12_blank nv cL x = ((1 : Int32), (L1_X12_blank x cL 7)) from by rw [F_X12_blank, if_neg c2]
          exact e_z (u := [(h0, .inr (12, (vs.set 0 (.int 0)))), (b53, .inl (g.2.1 1, 77, .inl (L1_X12_blank x cL 7)))]) X hQ hr (hW) rfl [1, 0] rfl rfl (⟨(congrArg Prod.fst hF).symm, by rw [hF]⟩) ⟨Nat.le_of_ble_eq_true rfl, Nat.le_of_ble_eq_true rfl⟩ dX12_blank_42
        · have h6 : ¬ (7 ≤ j1) := fun q => c4 ((nI_leI (a := 7) (b := j1) (by omega) (by omega)).mpr q)
          refine lv_aload_n (pc := 23) hx hb dX12_blank_23 rfl (lv_at hl 1 rfl) ?_
          refine r_get X hW 1 ciX12 53 rfl (by decide) m_1280 rfl (sv_ne (k := 0) (by decide) h53_) dX12_blank_24 ?_
          refine lv_bipush (v := 7) (pc := 27) hx hb dX12_blank_27 (by decide) ?_
          refine lv_iload_n (pc := 29) hx hb dX12_blank_29 rfl (lv_at hl 2 rfl) ?_
          refine lv_imul (pc := 30) hx hb dX12_blank_30 ?_
          refine lv_topi (fun v7 ev7 => ?_)
          obtain rfl : v7 = nI (7 * (tN x)) := ev7.trans (pk_mul 7 (tN x))
          refine lv_iload_n (pc := 31) hx hb dX12_blank_31 rfl (lv_at hl 0 rfl) ?_
          refine lv_iadd (pc := 32) hx hb dX12_blank_32 ?_
          refine lv_topi (fun v8 ev8 => ?_)
          obtain rfl : v8 = nI (7 * (tN x) + j1) := ev8.trans (nI_add _ _)
          refine lv_iconst (v := 0) (pc := 33) hx hb dX12_blank_33 (by decide) ?_
          refine r_iast (ws' := [(b53, .inl (g.2.1 1, 77, .inl (upd fb53_1 (7 * (tN x) + j1) (0 : Int32)))), (h0, .inr (12, (vs.set 0 (.int 0))))]) X hW 0 rfl (vp_in_nI (by omega) (by decide)) (f' := (upd fb53_1 (7 * (tN x) + j1) (0 : Int32))) (by rw [nI_clamp (by omega)]) rfl dX12_blank_34 (fun H locs hW => ?_)
          refine lv_iinc (v := nI (j1 + 1)) (lv' := [(2, .int (nI (j1 + 1))), (0, .ref h0), (1, .int (nI (tN x)))]) (pc := 35) hx hb dX12_blank_35 hl (k := 0) rfl (nI_add j1 1) (by decide) rfl (fun ls hl => ?_)
          refine lv_goto (tgt := 17) (pc := 38) hx hb dX12_blank_38 rfl ?_
          exact ih1 (j1 + 1) (upd fb53_1 (7 * (tN x) + j1) (0 : Int32)) (by omega) (by omega) (by rw [L1_X12_blank, ← hst1]; exact (show L1_X12_blanks x j1 fb53_1 = (upd fb53_1 (7 * (tN x) + j1) (0 : Int32)) from rfl).symm) _ _ _ hW (lv_sub hl [0, 1, 2] rfl)
    exact loop1 (7 + 1) 0 cL (by omega) (by omega) rfl _ _ _ hW (lv_sub hl [0, 1, 2] rfl)
  · refine lv_iconst (v := 0) (pc := 13) hx hb dX12_blank_13 (by decide) ?_
    have hF : F_X12_blank nv cL x = ((0 : Int32), cL) := show F_X12_blank nv cL x = ((0 : Int32), cL) from by rw [F_X12_blank, if_pos c2]
    exact e_z (u := [(h0, .inr (12, (vs.set 0 (.int 0)))), (b53, .inl (g.2.1 1, 77, .inl cL))]) X hQ hr (hW) rfl [1, 0] rfl rfl (⟨(congrArg Prod.fst hF).symm, by rw [hF]⟩) ⟨Nat.le_of_ble_eq_true rfl, Nat.le_of_ble_eq_true rfl⟩ dX12_blank_14

theorem rv_ok {i n : Nat} (hn : n < 2 ^ 31) (h : i < n) : F_X12_isValley n (nI i) = 1 := by
  unfold F_X12_isValley
  rw [if_neg (nI_nn (by omega)), if_neg (fun q => by have := (nI_leI (a := n) (b := i) (by omega) (by omega)).mp q; omega)]

def F_X12_plan1 (np : Nat) (pO : Nat → Int32) (pC : Nat → Int32) (i : Nat) : Int32 × (Nat → Int32) × (Nat → Int32) := (nI (np + 1 - 1), (upd pO np (nI i)), (upd pC np (0 : Int32)))
set_option maxHeartbeats 4000000 in
set_option maxRecDepth 100000 in
theorem K_X12_plan1 (l : Launch) (g : GG) (h0 : Nat) (vs : List Value) (nv : Nat) (np : Nat) (b21 : Nat) (pO : Nat → Int32) (b22 : Nat) (pC : Nat → Int32) (i : Nat) (hlen : vs.length = 64) (h18_ : vs[18]? = some (.int (nI nv))) (h27_ : vs[27]? = some (.int (nI np))) (h21_ : vs[21]? = some (.ref b21)) (h22_ : vs[22]? = some (.ref b22)) (hn : nv ≤ 10) (hnp : np < 12) (hi : i < nv) : MetI l g yX12_plan cX12_plan 2 (some .int) 1 0 0 [.ref h0, .int (nI i)] [(h0, .inr (12, vs)), (b21, .inl (g.2.1 1, 12, .inl pO)), (b22, .inl (g.2.1 1, 12, .inl pC))] (fun r u => r = (F_X12_plan1 np pO pC i).1 ∧ u = [(h0, .inr (12, ((vs.set 0 (.int 0)).set 27 (.int (nI (np + 1)))))), (b21, .inl (g.2.1 1, 12, .inl ((F_X12_plan1 np pO pC i).2.1))), (b22, .inl (g.2.1 1, 12, .inl ((F_X12_plan1 np pO pC i).2.2)))]) := by
  refine MetI.of (own := RX12) rfl (by decide) (Nat.le_of_ble_eq_true rfl) ?_
  intro p e s m below meth c A ls args Q hQ X hr hin hW hl
  have hx := X.1
  have hb := X.2.1
  have hl : lv_has ls 2 [(0, .ref h0), (1, .int (nI i))] := hl
  refine lv_aload_n (pc := 0) hx hb dX12_plan_0 rfl (lv_at hl 0 rfl) ?_
  refine lv_iconst (v := 0) (pc := 1) hx hb dX12_plan_1 (by decide) ?_
  refine r_put (ws' := [(h0, .inr (12, (vs.set 0 (.int 0)))), (b21, .inl (g.2.1 1, 12, .inl pO)), (b22, .inl (g.2.1 1, 12, .inl pC))]) X hW 0 ciX12 0 rfl (by decide) m_1231 rfl rfl rfl rfl (sv_lt (by decide) hlen) rfl dX12_plan_2 (fun H locs hW => ?_)
  refine lv_aload_n (pc := 5) hx hb dX12_plan_5 rfl (lv_at hl 0 rfl) ?_
  refine r_get X hW 0 ciX12 27 rfl (by decide) m_1258 rfl (sv_ne (k := 0) (by decide) h27_) dX12_plan_6 ?_
  refine lv_bipush (v := 12) (pc := 9) hx hb dX12_plan_9 (by decide) ?_
  refine lv_icmp_eq (tgt := 22) (pc := 11) hx hb dX12_plan_11 rfl (fun c1 => absurd c1 (fun q => by have := (nI_eq (a := np) (b := 12) (by omega) (by omega)).mp q; omega)) (fun c1 => ?_)
  refine lv_aload_n (pc := 14) hx hb dX12_plan_14 rfl (lv_at hl 0 rfl) ?_
  refine lv_iload_n (pc := 15) hx hb dX12_plan_15 rfl (lv_at hl 1 rfl) ?_
  refine c_Vi (pc := 16) (As := [.int (nI i)]) (rest := []) (wr := [(b21, .inl (g.2.1 1, 12, .inl pO)), (b22, .inl (g.2.1 1, 12, .inl pC))]) X hW 0 ciX12 rfl (K_X12_isValley l g h0 (vs.set 0 (.int 0)) nv (nI i) (sv_len hlen) (sv_ne (k := 0) (by decide) h18_)) vX12_221 [0] [1, 2] rfl rfl rfl rfl rfl rfl hl.1 rfl (Nat.le_of_ble_eq_true rfl) ⟨Nat.le_of_ble_eq_true rfl, Nat.le_of_ble_eq_true rfl⟩ ⟨Nat.le_of_ble_eq_true rfl, Nat.le_of_ble_eq_true rfl⟩ dX12_plan_16 (fun r2 u9 H locs hq hW => ?_)
  obtain ⟨rfl, rfl⟩ := hq
  have hW : WD g A s _ _ [(b21, .inl (g.2.1 1, 12, .inl pO)), (b22, .inl (g.2.1 1, 12, .inl pC)), (h0, .inr (12, (vs.set 0 (.int 0))))] := hW
  refine lv_if_ne (tgt := 24) (pc := 19) hx hb dX12_plan_19 rfl (fun c3 => ?_) (fun c3 => absurd c3 (by rw [rv_ok (by omega) hi]; decide))
  refine lv_aload_n (pc := 24) hx hb dX12_plan_24 rfl (lv_at hl 0 rfl) ?_
  refine r_get X hW 2 ciX12 21 rfl (by decide) m_1252 rfl (sv_ne (k := 0) (by decide) h21_) dX12_plan_25 ?_
  refine lv_aload_n (pc := 28) hx hb dX12_plan_28 rfl (lv_at hl 0 rfl) ?_
  refine r_get X hW 2 ciX12 27 rfl (by decide) m_1258 rfl (sv_ne (k := 0) (by decide) h27_) dX12_plan_29 ?_
  refine lv_iload_n (pc := 32) hx hb dX12_plan_32 rfl (lv_at hl 1 rfl) ?_
  refine r_iast (ws' := [(b21, .inl (g.2.1 1, 12, .inl (upd pO np (nI i)))), (b22, .inl (g.2.1 1, 12, .inl pC)), (h0, .inr (12, (vs.set 0 (.int 0))))]) X hW 0 rfl (vp_in_nI (by omega) (by decide)) (f' := (upd pO np (nI i))) (by rw [nI_clamp (by omega)]) rfl dX12_plan_33 (fun H locs hW => ?_)
  refine lv_aload_n (pc := 34) hx hb dX12_plan_34 rfl (lv_at hl 0 rfl) ?_
  refine r_get X hW 2 ciX12 22 rfl (by decide) m_1253 rfl (sv_ne (k := 0) (by decide) h22_) dX12_plan_35 ?_
  refine lv_aload_n (pc := 38) hx hb dX12_plan_38 rfl (lv_at hl 0 rfl) ?_
  refine r_get X hW 2 ciX12 27 rfl (by decide) m_1258 rfl (sv_ne (k := 0) (by decide) h27_) dX12_plan_39 ?_
  refine lv_iconst (v := 0) (pc := 42) hx hb dX12_plan_42 (by decide) ?_
  refine r_iast (ws' := [(b21, .inl (g.2.1 1, 12, .inl (upd pO np (nI i)))), (b22, .inl (g.2.1 1, 12, .inl (upd pC np (0 : Int32)))), (h0, .inr (12, (vs.set 0 (.int 0))))]) X hW 1 rfl (vp_in_nI (by omega) (by decide)) (f' := (upd pC np (0 : Int32))) (by rw [nI_clamp (by omega)]) rfl dX12_plan_43 (fun H locs hW => ?_)
  refine lv_aload_n (pc := 44) hx hb dX12_plan_44 rfl (lv_at hl 0 rfl) ?_
  refine lv_dup (pc := 45) hx hb dX12_plan_45 rfl ?_
  refine r_get X hW 2 ciX12 27 rfl (by decide) m_1258 rfl (sv_ne (k := 0) (by decide) h27_) dX12_plan_46 ?_
  refine lv_iconst (v := 1) (pc := 49) hx hb dX12_plan_49 (by decide) ?_
  refine lv_iadd (pc := 50) hx hb dX12_plan_50 ?_
  refine lv_topi (fun v4 ev4 => ?_)
  obtain rfl : v4 = nI (np + 1) := ev4.trans (nI_add np 1)
  refine r_put (ws' := [(b21, .inl (g.2.1 1, 12, .inl (upd pO np (nI i)))), (b22, .inl (g.2.1 1, 12, .inl (upd pC np (0 : Int32)))), (h0, .inr (12, ((vs.set 0 (.int 0)).set 27 (.int (nI (np + 1))))))]) X hW 2 ciX12 27 rfl (by decide) m_1258 rfl rfl rfl rfl (sv_lt (by decide) (sv_len hlen)) rfl dX12_plan_51 (fun H locs hW => ?_)
  refine lv_aload_n (pc := 54) hx hb dX12_plan_54 rfl (lv_at hl 0 rfl) ?_
  refine r_get X hW 2 ciX12 27 rfl (by decide) m_1258 rfl (sv_eq (k := 27) (n := 64) (by decide) (sv_len hlen)) dX12_plan_55 ?_
  refine lv_iconst (v := 1) (pc := 58) hx hb dX12_plan_58 (by decide) ?_
  refine lv_isub (pc := 59) hx hb dX12_plan_59 ?_
  refine lv_topi (fun v5 ev5 => ?_)
  obtain rfl : v5 = nI (np + 1 - 1) := ev5.trans (pk_sub (a := (np + 1)) (b := 1) (by omega))
  have hF : F_X12_plan1 np pO pC i = (nI (np + 1 - 1), (upd pO np (nI i)), (upd pC np (0 : Int32))) := show F_X12_plan1 np pO pC i = (nI (np + 1 - 1), (upd pO np (nI i)), (upd pC np (0 : Int32))) from rfl
  exact e_i (u := [(h0, .inr (12, ((vs.set 0 (.int 0)).set 27 (.int (nI (np + 1)))))), (b21, .inl (g.2.1 1, 12, .inl (upd pO np (nI i)))), (b22, .inl (g.2.1 1, 12, .inl (upd pC np (0 : Int32))))]) X hQ hr (hW) [2, 0, 1] rfl rfl (⟨(congrArg Prod.fst hF).symm, by rw [hF]⟩) ⟨Nat.le_of_ble_eq_true rfl, Nat.le_of_ble_eq_true rfl⟩ dX12_plan_60

def F_X12_plan0 (nv : Nat) (np : Nat) (x : Int32) : Int32 := if nI np = 12 then ((-1 : Int32)) else (if F_X12_isValley nv x = 0 then ((-1 : Int32)) else ((-1 : Int32)))
set_option maxHeartbeats 4000000 in
set_option maxRecDepth 100000 in
theorem K_X12_plan0 (l : Launch) (g : GG) (h0 : Nat) (vs : List Value) (nv : Nat) (np : Nat) (x : Int32) (hlen : vs.length = 64) (h18_ : vs[18]? = some (.int (nI nv))) (h27_ : vs[27]? = some (.int (nI np))) (hn : nv ≤ 10) (hnp : np ≤ 12) (hbad : np = 12 ∨ F_X12_isValley nv x = 0) : MetI l g yX12_plan cX12_plan 2 (some .int) 1 0 0 [.ref h0, .int x] [(h0, .inr (12, vs))] (fun r u => r = (F_X12_plan0 nv np x) ∧ u = [(h0, .inr (12, (vs.set 0 (.int 0))))]) := by
  refine MetI.of (own := RX12) rfl (by decide) (Nat.le_of_ble_eq_true rfl) ?_
  intro p e s m below meth c A ls args Q hQ X hr hin hW hl
  have hx := X.1
  have hb := X.2.1
  have hl : lv_has ls 2 [(0, .ref h0), (1, .int x)] := hl
  refine lv_aload_n (pc := 0) hx hb dX12_plan_0 rfl (lv_at hl 0 rfl) ?_
  refine lv_iconst (v := 0) (pc := 1) hx hb dX12_plan_1 (by decide) ?_
  refine r_put (ws' := [(h0, .inr (12, (vs.set 0 (.int 0))))]) X hW 0 ciX12 0 rfl (by decide) m_1231 rfl rfl rfl rfl (sv_lt (by decide) hlen) rfl dX12_plan_2 (fun H locs hW => ?_)
  refine lv_aload_n (pc := 5) hx hb dX12_plan_5 rfl (lv_at hl 0 rfl) ?_
  refine r_get X hW 0 ciX12 27 rfl (by decide) m_1258 rfl (sv_ne (k := 0) (by decide) h27_) dX12_plan_6 ?_
  refine lv_bipush (v := 12) (pc := 9) hx hb dX12_plan_9 (by decide) ?_
  refine lv_icmp_eq (tgt := 22) (pc := 11) hx hb dX12_plan_11 rfl (fun c1 => ?_) (fun c1 => ?_)
  · have h2 : np = 12 := (nI_eq (a := np) (b := 12) (by omega) (by omega)).mp c1
    refine lv_iconst (v := (-1)) (pc := 22) hx hb dX12_plan_22 (by decide) ?_
    have hF : F_X12_plan0 nv np x = (-1 : Int32) := show F_X12_plan0 nv np x = (-1 : Int32) from by rw [F_X12_plan0, if_pos c1]
    exact e_i (u := [(h0, .inr (12, (vs.set 0 (.int 0))))]) X hQ hr (hW) [0] rfl rfl (⟨hF.symm, rfl⟩) ⟨Nat.le_of_ble_eq_true rfl, Nat.le_of_ble_eq_true rfl⟩ dX12_plan_23
  · have h3 : ¬ (np = 12) := fun q => c1 ((nI_eq (a := np) (b := 12) (by omega) (by omega)).mpr q)
    have q14 := c1
    refine lv_aload_n (pc := 14) hx hb dX12_plan_14 rfl (lv_at hl 0 rfl) ?_
    refine lv_iload_n (pc := 15) hx hb dX12_plan_15 rfl (lv_at hl 1 rfl) ?_
    refine c_Vi (pc := 16) (As := [.int x]) (rest := []) (wr := []) X hW 0 ciX12 rfl (K_X12_isValley l g h0 (vs.set 0 (.int 0)) nv x (sv_len hlen) (sv_ne (k := 0) (by decide) h18_)) vX12_221 [0] [] rfl rfl rfl rfl rfl rfl hl.1 rfl (Nat.le_of_ble_eq_true rfl) ⟨Nat.le_of_ble_eq_true rfl, Nat.le_of_ble_eq_true rfl⟩ ⟨Nat.le_of_ble_eq_true rfl, Nat.le_of_ble_eq_true rfl⟩ dX12_plan_16 (fun r4 u9 H locs hq hW => ?_)
    obtain ⟨rfl, rfl⟩ := hq
    have hW : WD g A s _ _ [(h0, .inr (12, (vs.set 0 (.int 0))))] := hW
    refine lv_if_ne (tgt := 24) (pc := 19) hx hb dX12_plan_19 rfl (fun c5 => ?_) (fun c5 => ?_)
    · exact False.elim (hbad.elim (fun q => q14 (congrArg nI q)) c5)
    · refine lv_iconst (v := (-1)) (pc := 22) hx hb dX12_plan_22 (by decide) ?_
      have hF : F_X12_plan0 nv np x = (-1 : Int32) := show F_X12_plan0 nv np x = (-1 : Int32) from by rw [F_X12_plan0, if_neg c1, if_pos c5]
      exact e_i (u := [(h0, .inr (12, (vs.set 0 (.int 0))))]) X hQ hr (hW) [0] rfl rfl (⟨hF.symm, rfl⟩) ⟨Nat.le_of_ble_eq_true rfl, Nat.le_of_ble_eq_true rfl⟩ dX12_plan_23

def KV64 (vs : List Value) : Prop := ∃ (i0_ : Int32) (b1_ : Nat) (i2_ : Int32) (i3_ : Int32) (i4_ : Int32) (i5_ : Int32) (b6_ : Nat) (b7_ : Nat) (b8_ : Nat) (b9_ : Nat) (b10_ : Nat) (b11_ : Nat) (b12_ : Nat) (b13_ : Nat) (b14_ : Nat) (b15_ : Nat) (b16_ : Nat) (b17_ : Nat) (i18_ : Int32) (i19_ : Int32) (i20_ : Int32) (b21_ : Nat) (b22_ : Nat) (b23_ : Nat) (b24_ : Nat) (b25_ : Nat) (b26_ : Nat) (i27_ : Int32) (b28_ : Nat) (b29_ : Nat) (b30_ : Nat) (b31_ : Nat) (b32_ : Nat) (b33_ : Nat) (b34_ : Nat) (b35_ : Nat) (b36_ : Nat) (i37_ : Int32) (i38_ : Int32) (i39_ : Int32) (i40_ : Int32) (i41_ : Int32) (i42_ : Int32) (i43_ : Int32) (i44_ : Int32) (i45_ : Int32) (b46_ : Nat) (b47_ : Nat) (b48_ : Nat) (b49_ : Nat) (b50_ : Nat) (b51_ : Nat) (b52_ : Nat) (b53_ : Nat) (b54_ : Nat) (b55_ : Nat) (b56_ : Nat) (b57_ : Nat) (b58_ : Nat) (b59_ : Nat) (b60_ : Nat) (b61_ : Nat) (b62_ : Nat) (b63_ : Nat), vs = [.int i0_, .ref b1_, .int i2_, .int i3_, .int i4_, .int i5_, .ref b6_, .ref b7_, .ref b8_, .ref b9_, .ref b10_, .ref b11_, .ref b12_, .ref b13_, .ref b14_, .ref b15_, .ref b16_, .ref b17_, .int i18_, .int i19_, .int i20_, .ref b21_, .ref b22_, .ref b23_, .ref b24_, .ref b25_, .ref b26_, .int i27_, .ref b28_, .ref b29_, .ref b30_, .ref b31_, .ref b32_, .ref b33_, .ref b34_, .ref b35_, .ref b36_, .int i37_, .int i38_, .int i39_, .int i40_, .int i41_, .int i42_, .int i43_, .int i44_, .int i45_, .ref b46_, .ref b47_, .ref b48_, .ref b49_, .ref b50_, .ref b51_, .ref b52_, .ref b53_, .ref b54_, .ref b55_, .ref b56_, .ref b57_, .ref b58_, .ref b59_, .ref b60_, .ref b61_, .ref b62_, .ref b63_]
def EXV : List Bool → (List Value → Prop) → Prop
  | [], K => K []
  | true :: r, K => ∃ x : Int32, EXV r (fun s => K (.int x :: s))
  | false :: r, K => ∃ q : Nat, EXV r (fun s => K (.ref q :: s))
theorem VR_EXV {g : GG} {Γ : Nat → Nat} : ∀ (as : List AV) (vs : List Value) (K : List Value → Prop), VR g Γ as vs → (∀ a ∈ as, Nat.beq a.1 0 = true ∨ Nat.beq a.1 1 = true) → K vs → EXV (as.map fun a => Nat.beq a.1 0) K
  | [], vs, K, h, _, k => by
    cases vr_nil h
    exact k
  | a :: r, vs, K, h, ha, k => by
    obtain ⟨v, s, rfl, h1, h2⟩ := vr_cons h
    have ih := fun (K2 : List Value → Prop) (k2 : K2 s) => VR_EXV r s K2 h2 (fun b hb => ha b (List.mem_cons_of_mem _ hb)) k2
    show EXV (Nat.beq a.1 0 :: r.map fun a => Nat.beq a.1 0) K
    rcases ha a List.mem_cons_self with e | e
    · obtain ⟨x, rfl, -⟩ := avi_int e h1
      rw [e]
      show ∃ x : Int32, EXV (r.map fun a => Nat.beq a.1 0) (fun s => K (.int x :: s))
      exact ⟨x, ih (fun s => K (.int x :: s)) k⟩
    · obtain ⟨q, rfl, -⟩ := avi_ref e h1
      have e0 : Nat.beq a.1 0 = false := by
        rw [Nat.eq_of_beq_eq_true e]
        rfl
      rw [e0]
      show ∃ q : Nat, EXV (r.map fun a => Nat.beq a.1 0) (fun s => K (.ref q :: s))
      exact ⟨q, ih (fun s => K (.ref q :: s)) k⟩
set_option maxRecDepth 100000 in
set_option maxHeartbeats 4000000 in
theorem KV_of {g : GG} {Γ : Nat → Nat} {vs : List Value} (hv : VR g Γ [vi 0 1, vr 61, vi 0 400, vi 0 400, vj (-1) 400, vj (-99) 200, vr 62, vr 63, vr 64, vr 65, vr 120, vr 121, vr 66, vr 122, vr 67, vr 123, vr 68, vr 69, vi 0 10, vj (-1) 6, vj (-1) 6, vr 70, vr 71, vr 72, vr 73, vr 74, vr 75, vi 0 12, vr 76, vr 77, vr 78, vr 79, vr 80, vr 124, vr 81, vr 82, vr 125, vi 0 9, vi 0 127, vi 0 127, itop, itop, itop, vi 0 1, vi 0 127, vi 0 127, vr 83, vr 84, vr 85, vr 86, vr 126, vr 87, vr 88, vr 89, vr 90, vr 91, vr 92, vr 93, vr 94, vr 95, vr 127, vr 96, vr 97, vr 128] vs) : KV64 vs := by
  have h := VR_EXV _ vs (fun l => vs = l) hv (by decide +kernel) rfl
  exact h
def ALV : List Bool → (List Value → Prop) → Prop
  | [], K => K []
  | true :: r, K => ∀ x : Int32, ALV r (fun s => K (.int x :: s))
  | false :: r, K => ∀ q : Nat, ALV r (fun s => K (.ref q :: s))
theorem EXV_ALV {C : Prop} : ∀ (ks : List Bool) (K : List Value → Prop), EXV ks K → ALV ks (fun l => K l → C) → C
  | [], _, h, a => a h
  | true :: r, K, h, a => by
    obtain ⟨x, h⟩ := h
    exact EXV_ALV r _ h (a x)
  | false :: r, K, h, a => by
    obtain ⟨x, h⟩ := h
    exact EXV_ALV r _ h (a x)
set_option maxRecDepth 100000 in
theorem KV_elim {P : List Value → Prop} {vs : List Value} (h : KV64 vs) (k : ∀ (i0_ : Int32) (b1_ : Nat) (i2_ : Int32) (i3_ : Int32) (i4_ : Int32) (i5_ : Int32) (b6_ : Nat) (b7_ : Nat) (b8_ : Nat) (b9_ : Nat) (b10_ : Nat) (b11_ : Nat) (b12_ : Nat) (b13_ : Nat) (b14_ : Nat) (b15_ : Nat) (b16_ : Nat) (b17_ : Nat) (i18_ : Int32) (i19_ : Int32) (i20_ : Int32) (b21_ : Nat) (b22_ : Nat) (b23_ : Nat) (b24_ : Nat) (b25_ : Nat) (b26_ : Nat) (i27_ : Int32) (b28_ : Nat) (b29_ : Nat) (b30_ : Nat) (b31_ : Nat) (b32_ : Nat) (b33_ : Nat) (b34_ : Nat) (b35_ : Nat) (b36_ : Nat) (i37_ : Int32) (i38_ : Int32) (i39_ : Int32) (i40_ : Int32) (i41_ : Int32) (i42_ : Int32) (i43_ : Int32) (i44_ : Int32) (i45_ : Int32) (b46_ : Nat) (b47_ : Nat) (b48_ : Nat) (b49_ : Nat) (b50_ : Nat) (b51_ : Nat) (b52_ : Nat) (b53_ : Nat) (b54_ : Nat) (b55_ : Nat) (b56_ : Nat) (b57_ : Nat) (b58_ : Nat) (b59_ : Nat) (b60_ : Nat) (b61_ : Nat) (b62_ : Nat) (b63_ : Nat), P [.int i0_, .ref b1_, .int i2_, .int i3_, .int i4_, .int i5_, .ref b6_, .ref b7_, .ref b8_, .ref b9_, .ref b10_, .ref b11_, .ref b12_, .ref b13_, .ref b14_, .ref b15_, .ref b16_, .ref b17_, .int i18_, .int i19_, .int i20_, .ref b21_, .ref b22_, .ref b23_, .ref b24_, .ref b25_, .ref b26_, .int i27_, .ref b28_, .ref b29_, .ref b30_, .ref b31_, .ref b32_, .ref b33_, .ref b34_, .ref b35_, .ref b36_, .int i37_, .int i38_, .int i39_, .int i40_, .int i41_, .int i42_, .int i43_, .int i44_, .int i45_, .ref b46_, .ref b47_, .ref b48_, .ref b49_, .ref b50_, .ref b51_, .ref b52_, .ref b53_, .ref b54_, .ref b55_, .ref b56_, .ref b57_, .ref b58_, .ref b59_, .ref b60_, .ref b61_, .ref b62_, .ref b63_]) : P vs := by
  have h2 : EXV [true, false, true, true, true, true, false, false, false, false, false, false, false, false, false, false, false, false, true, true, true, false, false, false, false, false, false, true, false, false, false, false, false, false, false, false, false, true, true, true, true, true, true, true, true, true, false, false, false, false, false, false, false, false, false, false, false, false, false, false, false, false, false, false] (fun l => vs = l) := h
  refine EXV_ALV _ _ h2 ?_
  intro i0_ b1_ i2_ i3_ i4_ i5_ b6_ b7_ b8_ b9_ b10_ b11_ b12_ b13_ b14_ b15_ b16_ b17_ i18_ i19_ i20_ b21_ b22_ b23_ b24_ b25_ b26_ i27_ b28_ b29_ b30_ b31_ b32_ b33_ b34_ b35_ b36_ i37_ i38_ i39_ i40_ i41_ i42_ i43_ i44_ i45_ b46_ b47_ b48_ b49_ b50_ b51_ b52_ b53_ b54_ b55_ b56_ b57_ b58_ b59_ b60_ b61_ b62_ b63_ e
  exact Eq.mpr (congrArg P (show vs = [.int i0_, .ref b1_, .int i2_, .int i3_, .int i4_, .int i5_, .ref b6_, .ref b7_, .ref b8_, .ref b9_, .ref b10_, .ref b11_, .ref b12_, .ref b13_, .ref b14_, .ref b15_, .ref b16_, .ref b17_, .int i18_, .int i19_, .int i20_, .ref b21_, .ref b22_, .ref b23_, .ref b24_, .ref b25_, .ref b26_, .int i27_, .ref b28_, .ref b29_, .ref b30_, .ref b31_, .ref b32_, .ref b33_, .ref b34_, .ref b35_, .ref b36_, .int i37_, .int i38_, .int i39_, .int i40_, .int i41_, .int i42_, .int i43_, .int i44_, .int i45_, .ref b46_, .ref b47_, .ref b48_, .ref b49_, .ref b50_, .ref b51_, .ref b52_, .ref b53_, .ref b54_, .ref b55_, .ref b56_, .ref b57_, .ref b58_, .ref b59_, .ref b60_, .ref b61_, .ref b62_, .ref b63_] from e)) (k i0_ b1_ i2_ i3_ i4_ i5_ b6_ b7_ b8_ b9_ b10_ b11_ b12_ b13_ b14_ b15_ b16_ b17_ i18_ i19_ i20_ b21_ b22_ b23_ b24_ b25_ b26_ i27_ b28_ b29_ b30_ b31_ b32_ b33_ b34_ b35_ b36_ i37_ i38_ i39_ i40_ i41_ i42_ i43_ i44_ i45_ b46_ b47_ b48_ b49_ b50_ b51_ b52_ b53_ b54_ b55_ b56_ b57_ b58_ b59_ b60_ b61_ b62_ b63_)
theorem KV_elim2 {C : Prop} {vs : List Value} (h : KV64 vs) (k : ∀ (i0_ : Int32) (b1_ : Nat) (i2_ : Int32) (i3_ : Int32) (i4_ : Int32) (i5_ : Int32) (b6_ : Nat) (b7_ : Nat) (b8_ : Nat) (b9_ : Nat) (b10_ : Nat) (b11_ : Nat) (b12_ : Nat) (b13_ : Nat) (b14_ : Nat) (b15_ : Nat) (b16_ : Nat) (b17_ : Nat) (i18_ : Int32) (i19_ : Int32) (i20_ : Int32) (b21_ : Nat) (b22_ : Nat) (b23_ : Nat) (b24_ : Nat) (b25_ : Nat) (b26_ : Nat) (i27_ : Int32) (b28_ : Nat) (b29_ : Nat) (b30_ : Nat) (b31_ : Nat) (b32_ : Nat) (b33_ : Nat) (b34_ : Nat) (b35_ : Nat) (b36_ : Nat) (i37_ : Int32) (i38_ : Int32) (i39_ : Int32) (i40_ : Int32) (i41_ : Int32) (i42_ : Int32) (i43_ : Int32) (i44_ : Int32) (i45_ : Int32) (b46_ : Nat) (b47_ : Nat) (b48_ : Nat) (b49_ : Nat) (b50_ : Nat) (b51_ : Nat) (b52_ : Nat) (b53_ : Nat) (b54_ : Nat) (b55_ : Nat) (b56_ : Nat) (b57_ : Nat) (b58_ : Nat) (b59_ : Nat) (b60_ : Nat) (b61_ : Nat) (b62_ : Nat) (b63_ : Nat), vs = [.int i0_, .ref b1_, .int i2_, .int i3_, .int i4_, .int i5_, .ref b6_, .ref b7_, .ref b8_, .ref b9_, .ref b10_, .ref b11_, .ref b12_, .ref b13_, .ref b14_, .ref b15_, .ref b16_, .ref b17_, .int i18_, .int i19_, .int i20_, .ref b21_, .ref b22_, .ref b23_, .ref b24_, .ref b25_, .ref b26_, .int i27_, .ref b28_, .ref b29_, .ref b30_, .ref b31_, .ref b32_, .ref b33_, .ref b34_, .ref b35_, .ref b36_, .int i37_, .int i38_, .int i39_, .int i40_, .int i41_, .int i42_, .int i43_, .int i44_, .int i45_, .ref b46_, .ref b47_, .ref b48_, .ref b49_, .ref b50_, .ref b51_, .ref b52_, .ref b53_, .ref b54_, .ref b55_, .ref b56_, .ref b57_, .ref b58_, .ref b59_, .ref b60_, .ref b61_, .ref b62_, .ref b63_] → C) : C := KV_elim (P := fun us => vs = us → C) h k rfl
set_option maxHeartbeats 4000000 in
theorem KV_set0 {vs : List Value} {x : Int32} (h : KV64 vs) : KV64 (vs.set 0 (.int x)) := by
  refine KV_elim (P := fun vs => KV64 (vs.set 0 (.int x))) h ?_
  intro i0_ b1_ i2_ i3_ i4_ i5_ b6_ b7_ b8_ b9_ b10_ b11_ b12_ b13_ b14_ b15_ b16_ b17_ i18_ i19_ i20_ b21_ b22_ b23_ b24_ b25_ b26_ i27_ b28_ b29_ b30_ b31_ b32_ b33_ b34_ b35_ b36_ i37_ i38_ i39_ i40_ i41_ i42_ i43_ i44_ i45_ b46_ b47_ b48_ b49_ b50_ b51_ b52_ b53_ b54_ b55_ b56_ b57_ b58_ b59_ b60_ b61_ b62_ b63_
  exact ⟨x, b1_, i2_, i3_, i4_, i5_, b6_, b7_, b8_, b9_, b10_, b11_, b12_, b13_, b14_, b15_, b16_, b17_, i18_, i19_, i20_, b21_, b22_, b23_, b24_, b25_, b26_, i27_, b28_, b29_, b30_, b31_, b32_, b33_, b34_, b35_, b36_, i37_, i38_, i39_, i40_, i41_, i42_, i43_, i44_, i45_, b46_, b47_, b48_, b49_, b50_, b51_, b52_, b53_, b54_, b55_, b56_, b57_, b58_, b59_, b60_, b61_, b62_, b63_, rfl⟩
theorem KV_len {vs : List Value} (h : KV64 vs) : vs.length = 64 := KV_elim (P := fun vs => vs.length = 64) h (fun _ _ _ _ _ _ _ _ _ _ _ _ _ _ _ _ _ _ _ _ _ _ _ _ _ _ _ _ _ _ _ _ _ _ _ _ _ _ _ _ _ _ _ _ _ _ _ _ _ _ _ _ _ _ _ _ _ _ _ _ _ _ _ _ => rfl)


set_option maxHeartbeats 4000000 in
set_option maxRecDepth 100000 in
theorem C_X12_readValleyV (l : Launch) (g : GG) (h0 : Nat) (vs : List Value) (b1 : Nat) (b6 : Nat) (b7 : Nat) (b8 : Nat) (b9 : Nat) (b10 : Nat) (b11 : Nat) (b12 : Nat) (b13 : Nat) (b14 : Nat) (b15 : Nat) (b16 : Nat) (b17 : Nat) (rtp : Nat → Int32) (n0 : Nat) (v : Nat) (P9 : Nat → Int32) (S9 : RTX) (hk : KV64 vs) (hn0 : n0 ≤ 400) (hv : v ≤ 10) (h2_ : vs[2]? = some (.int (nI n0))) (h5_ : vs[5]? = some (.int S9.2.1)) (h18_ : vs[18]? = some (.int (nI v))) (h1_ : vs[1]? = some (.ref b1)) (h6_ : vs[6]? = some (.ref b6)) (h7_ : vs[7]? = some (.ref b7)) (h8_ : vs[8]? = some (.ref b8)) (h9_ : vs[9]? = some (.ref b9)) (h10_ : vs[10]? = some (.ref b10)) (h11_ : vs[11]? = some (.ref b11)) (h12_ : vs[12]? = some (.ref b12)) (h13_ : vs[13]? = some (.ref b13)) (h14_ : vs[14]? = some (.ref b14)) (h15_ : vs[15]? = some (.ref b15)) (h16_ : vs[16]? = some (.ref b16)) (h17_ : vs[17]? = some (.ref b17)) : MetI l g yX12_readValley cX12_readValley 3 (some .boolean) 5 0 0 [.ref h0] [(h0, .inr (12, vs)), (b1, .inl (g.2.1 0, 400, .inl rtp)), (b6, .inl (g.2.1 1, 11, .inl (P9))), (b7, .inl (g.2.1 1, 11, .inl (S9.2.2.1))), (b8, .inl (g.2.1 1, 11, .inl (S9.2.2.2.1))), (b9, .inl (g.2.1 1, 44, .inl (S9.2.2.2.2.1))), (b10, .inl (g.2.1 1, 44, .inl (S9.2.2.2.2.2.1))), (b11, .inl (g.2.1 1, 44, .inl (S9.2.2.2.2.2.2.1))), (b12, .inl (g.2.1 1, 132, .inl (S9.2.2.2.2.2.2.2.1))), (b13, .inl (g.2.1 1, 132, .inl (S9.2.2.2.2.2.2.2.2.1))), (b14, .inl (g.2.1 1, 132, .inl (S9.2.2.2.2.2.2.2.2.2.1))), (b15, .inl (g.2.1 1, 132, .inl (S9.2.2.2.2.2.2.2.2.2.2.1))), (b16, .inl (g.2.1 1, 132, .inl (S9.2.2.2.2.2.2.2.2.2.2.2.1))), (b17, .inl (g.2.1 3, 132, .inl (S9.2.2.2.2.2.2.2.2.2.2.2.2)))] (fun r u => r = (rdv n0 (ub rtp) v P9 S9).1 ∧ u = [(h0, .inr (12, (((vs.set 3 (.int (nI (rdv n0 (ub rtp) v P9 S9).2.2.2.1))).set 4 (.int ((rdv n0 (ub rtp) v P9 S9).2.1))).set 5 (.int ((rdv n0 (ub rtp) v P9 S9).2.2.2.2.1))))), (b1, .inl (g.2.1 0, 400, .inl rtp)), (b6, .inl (g.2.1 1, 11, .inl ((rdv n0 (ub rtp) v P9 S9).2.2.1))), (b7, .inl (g.2.1 1, 11, .inl ((rdv n0 (ub rtp) v P9 S9).2.2.2.2.2.1))), (b8, .inl (g.2.1 1, 11, .inl ((rdv n0 (ub rtp) v P9 S9).2.2.2.2.2.2.1))), (b9, .inl (g.2.1 1, 44, .inl ((rdv n0 (ub rtp) v P9 S9).2.2.2.2.2.2.2.1))), (b10, .inl (g.2.1 1, 44, .inl ((rdv n0 (ub rtp) v P9 S9).2.2.2.2.2.2.2.2.1))), (b11, .inl (g.2.1 1, 44, .inl ((rdv n0 (ub rtp) v P9 S9).2.2.2.2.2.2.2.2.2.1))), (b12, .inl (g.2.1 1, 132, .inl ((rdv n0 (ub rtp) v P9 S9).2.2.2.2.2.2.2.2.2.2.1))), (b13, .inl (g.2.1 1, 132, .inl ((rdv n0 (ub rtp) v P9 S9).2.2.2.2.2.2.2.2.2.2.2.1))), (b14, .inl (g.2.1 1, 132, .inl ((rdv n0 (ub rtp) v P9 S9).2.2.2.2.2.2.2.2.2.2.2.2.1))), (b15, .inl (g.2.1 1, 132, .inl ((rdv n0 (ub rtp) v P9 S9).2.2.2.2.2.2.2.2.2.2.2.2.2.1))), (b16, .inl (g.2.1 1, 132, .inl ((rdv n0 (ub rtp) v P9 S9).2.2.2.2.2.2.2.2.2.2.2.2.2.2.1))), (b17, .inl (g.2.1 3, 132, .inl ((rdv n0 (ub rtp) v P9 S9).2.2.2.2.2.2.2.2.2.2.2.2.2.2.2)))]) := by
  refine KV_elim2 hk ?_
  intro i0_ b1_ i2_ i3_ i4_ i5_ b6_ b7_ b8_ b9_ b10_ b11_ b12_ b13_ b14_ b15_ b16_ b17_ i18_ i19_ i20_ b21_ b22_ b23_ b24_ b25_ b26_ i27_ b28_ b29_ b30_ b31_ b32_ b33_ b34_ b35_ b36_ i37_ i38_ i39_ i40_ i41_ i42_ i43_ i44_ i45_ b46_ b47_ b48_ b49_ b50_ b51_ b52_ b53_ b54_ b55_ b56_ b57_ b58_ b59_ b60_ b61_ b62_ b63_ e64
  subst e64
  cases h2_
  cases h5_
  cases h18_
  cases h1_
  cases h6_
  cases h7_
  cases h8_
  cases h9_
  cases h10_
  cases h11_
  cases h12_
  cases h13_
  cases h14_
  cases h15_
  cases h16_
  cases h17_
  exact C_X12_readValleyG l g h0 b1 b6 b7 b8 b9 b10 b11 b12 b13 b14 b15 b16 b17 b21_ b22_ b23_ b24_ b25_ b26_ b28_ b29_ b30_ b31_ b32_ b33_ b34_ b35_ b36_ b46_ b47_ b48_ b49_ b50_ b51_ b52_ b53_ b54_ b55_ b56_ b57_ b58_ b59_ b60_ b61_ b62_ b63_ i0_ i4_ i19_ i20_ i27_ i37_ i38_ i39_ i40_ i41_ i42_ i43_ i44_ i45_ rtp n0 hn0 i3_ P9 S9 v hv

set_option maxHeartbeats 4000000 in
set_option maxRecDepth 100000 in
theorem C_X12_faultV (l : Launch) (g : GG) (h0 : Nat) (vs : List Value) (b1 : Nat) (b6 : Nat) (b7 : Nat) (b8 : Nat) (b9 : Nat) (b10 : Nat) (b11 : Nat) (b12 : Nat) (b13 : Nat) (b14 : Nat) (b15 : Nat) (b16 : Nat) (b17 : Nat) (rtp : Nat → Int32) (n0 : Nat) (v : Nat) (P9 : Nat → Int32) (S9 : RTX) (hk : KV64 vs) (hn0 : n0 ≤ 400) (hv : v ≤ 10) (h2_ : vs[2]? = some (.int (nI n0))) (h5_ : vs[5]? = some (.int S9.2.1)) (h18_ : vs[18]? = some (.int (nI v))) (h1_ : vs[1]? = some (.ref b1)) (h6_ : vs[6]? = some (.ref b6)) (h7_ : vs[7]? = some (.ref b7)) (h8_ : vs[8]? = some (.ref b8)) (h9_ : vs[9]? = some (.ref b9)) (h10_ : vs[10]? = some (.ref b10)) (h11_ : vs[11]? = some (.ref b11)) (h12_ : vs[12]? = some (.ref b12)) (h13_ : vs[13]? = some (.ref b13)) (h14_ : vs[14]? = some (.ref b14)) (h15_ : vs[15]? = some (.ref b15)) (h16_ : vs[16]? = some (.ref b16)) (h17_ : vs[17]? = some (.ref b17)) : MetI l g yX12_fault cX12_fault 2 (some .int) 6 0 0 [.ref h0] [(h0, .inr (12, vs)), (b1, .inl (g.2.1 0, 400, .inl rtp)), (b6, .inl (g.2.1 1, 11, .inl (P9))), (b7, .inl (g.2.1 1, 11, .inl (S9.2.2.1))), (b8, .inl (g.2.1 1, 11, .inl (S9.2.2.2.1))), (b9, .inl (g.2.1 1, 44, .inl (S9.2.2.2.2.1))), (b10, .inl (g.2.1 1, 44, .inl (S9.2.2.2.2.2.1))), (b11, .inl (g.2.1 1, 44, .inl (S9.2.2.2.2.2.2.1))), (b12, .inl (g.2.1 1, 132, .inl (S9.2.2.2.2.2.2.2.1))), (b13, .inl (g.2.1 1, 132, .inl (S9.2.2.2.2.2.2.2.2.1))), (b14, .inl (g.2.1 1, 132, .inl (S9.2.2.2.2.2.2.2.2.2.1))), (b15, .inl (g.2.1 1, 132, .inl (S9.2.2.2.2.2.2.2.2.2.2.1))), (b16, .inl (g.2.1 1, 132, .inl (S9.2.2.2.2.2.2.2.2.2.2.2.1))), (b17, .inl (g.2.1 3, 132, .inl (S9.2.2.2.2.2.2.2.2.2.2.2.2)))] (fun r u => r = (rdv n0 (ub rtp) v P9 S9).2.1 ∧ u = [(h0, .inr (12, ((((vs.set 0 (.int 0)).set 3 (.int (nI (rdv n0 (ub rtp) v P9 S9).2.2.2.1))).set 4 (.int ((rdv n0 (ub rtp) v P9 S9).2.1))).set 5 (.int ((rdv n0 (ub rtp) v P9 S9).2.2.2.2.1))))), (b1, .inl (g.2.1 0, 400, .inl rtp)), (b6, .inl (g.2.1 1, 11, .inl ((rdv n0 (ub rtp) v P9 S9).2.2.1))), (b7, .inl (g.2.1 1, 11, .inl ((rdv n0 (ub rtp) v P9 S9).2.2.2.2.2.1))), (b8, .inl (g.2.1 1, 11, .inl ((rdv n0 (ub rtp) v P9 S9).2.2.2.2.2.2.1))), (b9, .inl (g.2.1 1, 44, .inl ((rdv n0 (ub rtp) v P9 S9).2.2.2.2.2.2.2.1))), (b10, .inl (g.2.1 1, 44, .inl ((rdv n0 (ub rtp) v P9 S9).2.2.2.2.2.2.2.2.1))), (b11, .inl (g.2.1 1, 44, .inl ((rdv n0 (ub rtp) v P9 S9).2.2.2.2.2.2.2.2.2.1))), (b12, .inl (g.2.1 1, 132, .inl ((rdv n0 (ub rtp) v P9 S9).2.2.2.2.2.2.2.2.2.2.1))), (b13, .inl (g.2.1 1, 132, .inl ((rdv n0 (ub rtp) v P9 S9).2.2.2.2.2.2.2.2.2.2.2.1))), (b14, .inl (g.2.1 1, 132, .inl ((rdv n0 (ub rtp) v P9 S9).2.2.2.2.2.2.2.2.2.2.2.2.1))), (b15, .inl (g.2.1 1, 132, .inl ((rdv n0 (ub rtp) v P9 S9).2.2.2.2.2.2.2.2.2.2.2.2.2.1))), (b16, .inl (g.2.1 1, 132, .inl ((rdv n0 (ub rtp) v P9 S9).2.2.2.2.2.2.2.2.2.2.2.2.2.2.1))), (b17, .inl (g.2.1 3, 132, .inl ((rdv n0 (ub rtp) v P9 S9).2.2.2.2.2.2.2.2.2.2.2.2.2.2.2)))]) := by
  refine MetI.of (own := RX12) rfl (by decide) (Nat.le_of_ble_eq_true rfl) ?_
  intro p e s m below meth c A ls args Q hQ X hr hin hW hl
  have hx := X.1
  have hb := X.2.1
  have hl : lv_has ls 2 [(0, .ref h0)] := hl
  refine lv_aload_n (pc := 0) hx hb dX12_fault_0 rfl (lv_at hl 0 rfl) ?_
  refine lv_iconst (v := 0) (pc := 1) hx hb dX12_fault_1 (by decide) ?_
  refine r_put (ws' := [(h0, .inr (12, (vs.set 0 (.int 0)))), (b1, .inl (g.2.1 0, 400, .inl rtp)), (b6, .inl (g.2.1 1, 11, .inl (P9))), (b7, .inl (g.2.1 1, 11, .inl (S9.2.2.1))), (b8, .inl (g.2.1 1, 11, .inl (S9.2.2.2.1))), (b9, .inl (g.2.1 1, 44, .inl (S9.2.2.2.2.1))), (b10, .inl (g.2.1 1, 44, .inl (S9.2.2.2.2.2.1))), (b11, .inl (g.2.1 1, 44, .inl (S9.2.2.2.2.2.2.1))), (b12, .inl (g.2.1 1, 132, .inl (S9.2.2.2.2.2.2.2.1))), (b13, .inl (g.2.1 1, 132, .inl (S9.2.2.2.2.2.2.2.2.1))), (b14, .inl (g.2.1 1, 132, .inl (S9.2.2.2.2.2.2.2.2.2.1))), (b15, .inl (g.2.1 1, 132, .inl (S9.2.2.2.2.2.2.2.2.2.2.1))), (b16, .inl (g.2.1 1, 132, .inl (S9.2.2.2.2.2.2.2.2.2.2.2.1))), (b17, .inl (g.2.1 3, 132, .inl (S9.2.2.2.2.2.2.2.2.2.2.2.2)))]) X hW 0 ciX12 0 rfl (by decide) m_1231 rfl rfl rfl rfl (sv_lt (by decide) (KV_len hk)) rfl dX12_fault_2 (fun H locs hW => ?_)
  refine lv_aload_n (pc := 5) hx hb dX12_fault_5 rfl (lv_at hl 0 rfl) ?_
  refine c_Vi (pc := 6) (As := []) (rest := []) (wr := []) X hW 0 ciX12 rfl (C_X12_readValleyV l g h0 (vs.set 0 (.int 0)) b1 b6 b7 b8 b9 b10 b11 b12 b13 b14 b15 b16 b17 rtp n0 v P9 S9 (KV_set0 hk) hn0 hv (sv_ne (k := 0) (by decide) h2_) (sv_ne (k := 0) (by decide) h5_) (sv_ne (k := 0) (by decide) h18_) (sv_ne (k := 0) (by decide) h1_) (sv_ne (k := 0) (by decide) h6_) (sv_ne (k := 0) (by decide) h7_) (sv_ne (k := 0) (by decide) h8_) (sv_ne (k := 0) (by decide) h9_) (sv_ne (k := 0) (by decide) h10_) (sv_ne (k := 0) (by decide) h11_) (sv_ne (k := 0) (by decide) h12_) (sv_ne (k := 0) (by decide) h13_) (sv_ne (k := 0) (by decide) h14_) (sv_ne (k := 0) (by decide) h15_) (sv_ne (k := 0) (by decide) h16_) (sv_ne (k := 0) (by decide) h17_)) vX12_218 [0, 1, 2, 3, 4, 5, 6, 7, 8, 9, 10, 11, 12, 13] [] rfl rfl rfl rfl rfl rfl hl.1 rfl (Nat.le_of_ble_eq_true rfl) ⟨Nat.le_of_ble_eq_true rfl, Nat.le_of_ble_eq_true rfl⟩ ⟨Nat.le_of_ble_eq_true rfl, Nat.le_of_ble_eq_true rfl⟩ dX12_fault_6 (fun r1 u9 H locs hq hW => ?_)
  obtain ⟨rfl, rfl⟩ := hq
  have hW : WD g A s _ _ [(h0, .inr (12, ((((vs.set 0 (.int 0)).set 3 (.int (nI (rdv n0 (ub rtp) v P9 S9).2.2.2.1))).set 4 (.int ((rdv n0 (ub rtp) v P9 S9).2.1))).set 5 (.int ((rdv n0 (ub rtp) v P9 S9).2.2.2.2.1))))), (b1, .inl (g.2.1 0, 400, .inl rtp)), (b6, .inl (g.2.1 1, 11, .inl ((rdv n0 (ub rtp) v P9 S9).2.2.1))), (b7, .inl (g.2.1 1, 11, .inl ((rdv n0 (ub rtp) v P9 S9).2.2.2.2.2.1))), (b8, .inl (g.2.1 1, 11, .inl ((rdv n0 (ub rtp) v P9 S9).2.2.2.2.2.2.1))), (b9, .inl (g.2.1 1, 44, .inl ((rdv n0 (ub rtp) v P9 S9).2.2.2.2.2.2.2.1))), (b10, .inl (g.2.1 1, 44, .inl ((rdv n0 (ub rtp) v P9 S9).2.2.2.2.2.2.2.2.1))), (b11, .inl (g.2.1 1, 44, .inl ((rdv n0 (ub rtp) v P9 S9).2.2.2.2.2.2.2.2.2.1))), (b12, .inl (g.2.1 1, 132, .inl ((rdv n0 (ub rtp) v P9 S9).2.2.2.2.2.2.2.2.2.2.1))), (b13, .inl (g.2.1 1, 132, .inl ((rdv n0 (ub rtp) v P9 S9).2.2.2.2.2.2.2.2.2.2.2.1))), (b14, .inl (g.2.1 1, 132, .inl ((rdv n0 (ub rtp) v P9 S9).2.2.2.2.2.2.2.2.2.2.2.2.1))), (b15, .inl (g.2.1 1, 132, .inl ((rdv n0 (ub rtp) v P9 S9).2.2.2.2.2.2.2.2.2.2.2.2.2.1))), (b16, .inl (g.2.1 1, 132, .inl ((rdv n0 (ub rtp) v P9 S9).2.2.2.2.2.2.2.2.2.2.2.2.2.2.1))), (b17, .inl (g.2.1 3, 132, .inl ((rdv n0 (ub rtp) v P9 S9).2.2.2.2.2.2.2.2.2.2.2.2.2.2.2)))] := hW
  refine lv_istore_n (lv' := [(1, .int ((rdv n0 (ub rtp) v P9 S9).1)), (0, .ref h0)]) (pc := 9) hx hb dX12_fault_9 rfl hl (by decide) rfl (fun ls hl => ?_)
  refine lv_aload_n (pc := 10) hx hb dX12_fault_10 rfl (lv_at hl 1 rfl) ?_
  refine r_get X hW 0 ciX12 4 rfl (by decide) m_1235 rfl (sv_ne (k := 5) (by decide) (sv_eq (k := 4) (n := 64) (by decide) (sv_len (sv_len (KV_len hk))))) dX12_fault_11 ?_
  exact e_i X hQ hr hW (u := [(h0, .inr (12, ((((vs.set 0 (.int 0)).set 3 (.int (nI (rdv n0 (ub rtp) v P9 S9).2.2.2.1))).set 4 (.int ((rdv n0 (ub rtp) v P9 S9).2.1))).set 5 (.int ((rdv n0 (ub rtp) v P9 S9).2.2.2.2.1))))), (b1, .inl (g.2.1 0, 400, .inl rtp)), (b6, .inl (g.2.1 1, 11, .inl ((rdv n0 (ub rtp) v P9 S9).2.2.1))), (b7, .inl (g.2.1 1, 11, .inl ((rdv n0 (ub rtp) v P9 S9).2.2.2.2.2.1))), (b8, .inl (g.2.1 1, 11, .inl ((rdv n0 (ub rtp) v P9 S9).2.2.2.2.2.2.1))), (b9, .inl (g.2.1 1, 44, .inl ((rdv n0 (ub rtp) v P9 S9).2.2.2.2.2.2.2.1))), (b10, .inl (g.2.1 1, 44, .inl ((rdv n0 (ub rtp) v P9 S9).2.2.2.2.2.2.2.2.1))), (b11, .inl (g.2.1 1, 44, .inl ((rdv n0 (ub rtp) v P9 S9).2.2.2.2.2.2.2.2.2.1))), (b12, .inl (g.2.1 1, 132, .inl ((rdv n0 (ub rtp) v P9 S9).2.2.2.2.2.2.2.2.2.2.1))), (b13, .inl (g.2.1 1, 132, .inl ((rdv n0 (ub rtp) v P9 S9).2.2.2.2.2.2.2.2.2.2.2.1))), (b14, .inl (g.2.1 1, 132, .inl ((rdv n0 (ub rtp) v P9 S9).2.2.2.2.2.2.2.2.2.2.2.2.1))), (b15, .inl (g.2.1 1, 132, .inl ((rdv n0 (ub rtp) v P9 S9).2.2.2.2.2.2.2.2.2.2.2.2.2.1))), (b16, .inl (g.2.1 1, 132, .inl ((rdv n0 (ub rtp) v P9 S9).2.2.2.2.2.2.2.2.2.2.2.2.2.2.1))), (b17, .inl (g.2.1 3, 132, .inl ((rdv n0 (ub rtp) v P9 S9).2.2.2.2.2.2.2.2.2.2.2.2.2.2.2)))]) [0, 1, 2, 3, 4, 5, 6, 7, 8, 9, 10, 11, 12, 13] rfl rfl (⟨rfl, rfl⟩) ⟨Nat.le_of_ble_eq_true rfl, Nat.le_of_ble_eq_true rfl⟩ dX12_fault_14

set_option maxHeartbeats 4000000 in
set_option maxRecDepth 100000 in
theorem C_X12_valley0 (l : Launch) (g : GG) (h0 : Nat) (vs : List Value) (b1 : Nat) (b6 : Nat) (b7 : Nat) (b8 : Nat) (b9 : Nat) (b10 : Nat) (b11 : Nat) (b12 : Nat) (b13 : Nat) (b14 : Nat) (b15 : Nat) (b16 : Nat) (b17 : Nat) (rtp : Nat → Int32) (n0 : Nat) (v : Nat) (P9 : Nat → Int32) (S9 : RTX) (hk : KV64 vs) (hn0 : n0 ≤ 400) (hv : v ≤ 10) (h2_ : vs[2]? = some (.int (nI n0))) (h5_ : vs[5]? = some (.int S9.2.1)) (h18_ : vs[18]? = some (.int (nI v))) (h1_ : vs[1]? = some (.ref b1)) (h6_ : vs[6]? = some (.ref b6)) (h7_ : vs[7]? = some (.ref b7)) (h8_ : vs[8]? = some (.ref b8)) (h9_ : vs[9]? = some (.ref b9)) (h10_ : vs[10]? = some (.ref b10)) (h11_ : vs[11]? = some (.ref b11)) (h12_ : vs[12]? = some (.ref b12)) (h13_ : vs[13]? = some (.ref b13)) (h14_ : vs[14]? = some (.ref b14)) (h15_ : vs[15]? = some (.ref b15)) (h16_ : vs[16]? = some (.ref b16)) (h17_ : vs[17]? = some (.ref b17)) (hv9 : v < 10) (hbad : ¬ (¬ (rdv n0 (ub rtp) v P9 S9).1 = 0)) : MetI l g yX12_valley cX12_valley 2 (some .int) 6 0 0 [.ref h0] [(h0, .inr (12, vs)), (b1, .inl (g.2.1 0, 400, .inl rtp)), (b6, .inl (g.2.1 1, 11, .inl (P9))), (b7, .inl (g.2.1 1, 11, .inl (S9.2.2.1))), (b8, .inl (g.2.1 1, 11, .inl (S9.2.2.2.1))), (b9, .inl (g.2.1 1, 44, .inl (S9.2.2.2.2.1))), (b10, .inl (g.2.1 1, 44, .inl (S9.2.2.2.2.2.1))), (b11, .inl (g.2.1 1, 44, .inl (S9.2.2.2.2.2.2.1))), (b12, .inl (g.2.1 1, 132, .inl (S9.2.2.2.2.2.2.2.1))), (b13, .inl (g.2.1 1, 132, .inl (S9.2.2.2.2.2.2.2.2.1))), (b14, .inl (g.2.1 1, 132, .inl (S9.2.2.2.2.2.2.2.2.2.1))), (b15, .inl (g.2.1 1, 132, .inl (S9.2.2.2.2.2.2.2.2.2.2.1))), (b16, .inl (g.2.1 1, 132, .inl (S9.2.2.2.2.2.2.2.2.2.2.2.1))), (b17, .inl (g.2.1 3, 132, .inl (S9.2.2.2.2.2.2.2.2.2.2.2.2)))] (fun r u => r = -1 ∧ u = [(h0, .inr (12, ((((vs.set 0 (.int 0)).set 3 (.int (nI (rdv n0 (ub rtp) v P9 S9).2.2.2.1))).set 4 (.int ((rdv n0 (ub rtp) v P9 S9).2.1))).set 5 (.int ((rdv n0 (ub rtp) v P9 S9).2.2.2.2.1))))), (b1, .inl (g.2.1 0, 400, .inl rtp)), (b6, .inl (g.2.1 1, 11, .inl ((rdv n0 (ub rtp) v P9 S9).2.2.1))), (b7, .inl (g.2.1 1, 11, .inl ((rdv n0 (ub rtp) v P9 S9).2.2.2.2.2.1))), (b8, .inl (g.2.1 1, 11, .inl ((rdv n0 (ub rtp) v P9 S9).2.2.2.2.2.2.1))), (b9, .inl (g.2.1 1, 44, .inl ((rdv n0 (ub rtp) v P9 S9).2.2.2.2.2.2.2.1))), (b10, .inl (g.2.1 1, 44, .inl ((rdv n0 (ub rtp) v P9 S9).2.2.2.2.2.2.2.2.1))), (b11, .inl (g.2.1 1, 44, .inl ((rdv n0 (ub rtp) v P9 S9).2.2.2.2.2.2.2.2.2.1))), (b12, .inl (g.2.1 1, 132, .inl ((rdv n0 (ub rtp) v P9 S9).2.2.2.2.2.2.2.2.2.2.1))), (b13, .inl (g.2.1 1, 132, .inl ((rdv n0 (ub rtp) v P9 S9).2.2.2.2.2.2.2.2.2.2.2.1))), (b14, .inl (g.2.1 1, 132, .inl ((rdv n0 (ub rtp) v P9 S9).2.2.2.2.2.2.2.2.2.2.2.2.1))), (b15, .inl (g.2.1 1, 132, .inl ((rdv n0 (ub rtp) v P9 S9).2.2.2.2.2.2.2.2.2.2.2.2.2.1))), (b16, .inl (g.2.1 1, 132, .inl ((rdv n0 (ub rtp) v P9 S9).2.2.2.2.2.2.2.2.2.2.2.2.2.2.1))), (b17, .inl (g.2.1 3, 132, .inl ((rdv n0 (ub rtp) v P9 S9).2.2.2.2.2.2.2.2.2.2.2.2.2.2.2)))]) := by
  refine MetI.of (own := RX12) rfl (by decide) (Nat.le_of_ble_eq_true rfl) ?_
  intro p e s m below meth c A ls args Q hQ X hr hin hW hl
  have hx := X.1
  have hb := X.2.1
  have hl : lv_has ls 2 [(0, .ref h0)] := hl
  refine lv_aload_n (pc := 0) hx hb dX12_valley_0 rfl (lv_at hl 0 rfl) ?_
  refine lv_iconst (v := 0) (pc := 1) hx hb dX12_valley_1 (by decide) ?_
  refine r_put (ws' := [(h0, .inr (12, (vs.set 0 (.int 0)))), (b1, .inl (g.2.1 0, 400, .inl rtp)), (b6, .inl (g.2.1 1, 11, .inl (P9))), (b7, .inl (g.2.1 1, 11, .inl (S9.2.2.1))), (b8, .inl (g.2.1 1, 11, .inl (S9.2.2.2.1))), (b9, .inl (g.2.1 1, 44, .inl (S9.2.2.2.2.1))), (b10, .inl (g.2.1 1, 44, .inl (S9.2.2.2.2.2.1))), (b11, .inl (g.2.1 1, 44, .inl (S9.2.2.2.2.2.2.1))), (b12, .inl (g.2.1 1, 132, .inl (S9.2.2.2.2.2.2.2.1))), (b13, .inl (g.2.1 1, 132, .inl (S9.2.2.2.2.2.2.2.2.1))), (b14, .inl (g.2.1 1, 132, .inl (S9.2.2.2.2.2.2.2.2.2.1))), (b15, .inl (g.2.1 1, 132, .inl (S9.2.2.2.2.2.2.2.2.2.2.1))), (b16, .inl (g.2.1 1, 132, .inl (S9.2.2.2.2.2.2.2.2.2.2.2.1))), (b17, .inl (g.2.1 3, 132, .inl (S9.2.2.2.2.2.2.2.2.2.2.2.2)))]) X hW 0 ciX12 0 rfl (by decide) m_1231 rfl rfl rfl rfl (sv_lt (by decide) (KV_len hk)) rfl dX12_valley_2 (fun H locs hW => ?_)
  refine lv_aload_n (pc := 5) hx hb dX12_valley_5 rfl (lv_at hl 0 rfl) ?_
  refine r_get X hW 0 ciX12 18 rfl (by decide) m_1249 rfl (sv_ne (k := 0) (by decide) h18_) dX12_valley_6 ?_
  refine lv_bipush (v := 10) (pc := 9) hx hb dX12_valley_9 (by decide) ?_
  refine lv_icmp_eq (tgt := 21) (pc := 11) hx hb dX12_valley_11 rfl (fun c1 => absurd c1 (fun q => by have := (nI_eq (a := v) (b := 10) (by omega) (by omega)).mp q; omega)) (fun c1 => ?_)
  refine lv_aload_n (pc := 14) hx hb dX12_valley_14 rfl (lv_at hl 0 rfl) ?_
  refine c_Vi (pc := 15) (As := []) (rest := []) (wr := []) X hW 0 ciX12 rfl (C_X12_readValleyV l g h0 (vs.set 0 (.int 0)) b1 b6 b7 b8 b9 b10 b11 b12 b13 b14 b15 b16 b17 rtp n0 v P9 S9 (KV_set0 hk) hn0 hv (sv_ne (k := 0) (by decide) h2_) (sv_ne (k := 0) (by decide) h5_) (sv_ne (k := 0) (by decide) h18_) (sv_ne (k := 0) (by decide) h1_) (sv_ne (k := 0) (by decide) h6_) (sv_ne (k := 0) (by decide) h7_) (sv_ne (k := 0) (by decide) h8_) (sv_ne (k := 0) (by decide) h9_) (sv_ne (k := 0) (by decide) h10_) (sv_ne (k := 0) (by decide) h11_) (sv_ne (k := 0) (by decide) h12_) (sv_ne (k := 0) (by decide) h13_) (sv_ne (k := 0) (by decide) h14_) (sv_ne (k := 0) (by decide) h15_) (sv_ne (k := 0) (by decide) h16_) (sv_ne (k := 0) (by decide) h17_)) vX12_218 [0, 1, 2, 3, 4, 5, 6, 7, 8, 9, 10, 11, 12, 13] [] rfl rfl rfl rfl rfl rfl hl.1 rfl (Nat.le_of_ble_eq_true rfl) ⟨Nat.le_of_ble_eq_true rfl, Nat.le_of_ble_eq_true rfl⟩ ⟨Nat.le_of_ble_eq_true rfl, Nat.le_of_ble_eq_true rfl⟩ dX12_valley_15 (fun r2 u9 H locs hq hW => ?_)
  obtain ⟨rfl, rfl⟩ := hq
  have hW : WD g A s _ _ [(h0, .inr (12, ((((vs.set 0 (.int 0)).set 3 (.int (nI (rdv n0 (ub rtp) v P9 S9).2.2.2.1))).set 4 (.int ((rdv n0 (ub rtp) v P9 S9).2.1))).set 5 (.int ((rdv n0 (ub rtp) v P9 S9).2.2.2.2.1))))), (b1, .inl (g.2.1 0, 400, .inl rtp)), (b6, .inl (g.2.1 1, 11, .inl ((rdv n0 (ub rtp) v P9 S9).2.2.1))), (b7, .inl (g.2.1 1, 11, .inl ((rdv n0 (ub rtp) v P9 S9).2.2.2.2.2.1))), (b8, .inl (g.2.1 1, 11, .inl ((rdv n0 (ub rtp) v P9 S9).2.2.2.2.2.2.1))), (b9, .inl (g.2.1 1, 44, .inl ((rdv n0 (ub rtp) v P9 S9).2.2.2.2.2.2.2.1))), (b10, .inl (g.2.1 1, 44, .inl ((rdv n0 (ub rtp) v P9 S9).2.2.2.2.2.2.2.2.1))), (b11, .inl (g.2.1 1, 44, .inl ((rdv n0 (ub rtp) v P9 S9).2.2.2.2.2.2.2.2.2.1))), (b12, .inl (g.2.1 1, 132, .inl ((rdv n0 (ub rtp) v P9 S9).2.2.2.2.2.2.2.2.2.2.1))), (b13, .inl (g.2.1 1, 132, .inl ((rdv n0 (ub rtp) v P9 S9).2.2.2.2.2.2.2.2.2.2.2.1))), (b14, .inl (g.2.1 1, 132, .inl ((rdv n0 (ub rtp) v P9 S9).2.2.2.2.2.2.2.2.2.2.2.2.1))), (b15, .inl (g.2.1 1, 132, .inl ((rdv n0 (ub rtp) v P9 S9).2.2.2.2.2.2.2.2.2.2.2.2.2.1))), (b16, .inl (g.2.1 1, 132, .inl ((rdv n0 (ub rtp) v P9 S9).2.2.2.2.2.2.2.2.2.2.2.2.2.2.1))), (b17, .inl (g.2.1 3, 132, .inl ((rdv n0 (ub rtp) v P9 S9).2.2.2.2.2.2.2.2.2.2.2.2.2.2.2)))] := hW
  refine lv_if_ne (tgt := 23) (pc := 18) hx hb dX12_valley_18 rfl (fun c3 => absurd (Decidable.of_not_not hbad) c3) (fun c3 => ?_)
  refine lv_iconst (v := (-1)) (pc := 21) hx hb dX12_valley_21 (by decide) ?_
  exact e_i X hQ hr hW (u := [(h0, .inr (12, ((((vs.set 0 (.int 0)).set 3 (.int (nI (rdv n0 (ub rtp) v P9 S9).2.2.2.1))).set 4 (.int ((rdv n0 (ub rtp) v P9 S9).2.1))).set 5 (.int ((rdv n0 (ub rtp) v P9 S9).2.2.2.2.1))))), (b1, .inl (g.2.1 0, 400, .inl rtp)), (b6, .inl (g.2.1 1, 11, .inl ((rdv n0 (ub rtp) v P9 S9).2.2.1))), (b7, .inl (g.2.1 1, 11, .inl ((rdv n0 (ub rtp) v P9 S9).2.2.2.2.2.1))), (b8, .inl (g.2.1 1, 11, .inl ((rdv n0 (ub rtp) v P9 S9).2.2.2.2.2.2.1))), (b9, .inl (g.2.1 1, 44, .inl ((rdv n0 (ub rtp) v P9 S9).2.2.2.2.2.2.2.1))), (b10, .inl (g.2.1 1, 44, .inl ((rdv n0 (ub rtp) v P9 S9).2.2.2.2.2.2.2.2.1))), (b11, .inl (g.2.1 1, 44, .inl ((rdv n0 (ub rtp) v P9 S9).2.2.2.2.2.2.2.2.2.1))), (b12, .inl (g.2.1 1, 132, .inl ((rdv n0 (ub rtp) v P9 S9).2.2.2.2.2.2.2.2.2.2.1))), (b13, .inl (g.2.1 1, 132, .inl ((rdv n0 (ub rtp) v P9 S9).2.2.2.2.2.2.2.2.2.2.2.1))), (b14, .inl (g.2.1 1, 132, .inl ((rdv n0 (ub rtp) v P9 S9).2.2.2.2.2.2.2.2.2.2.2.2.1))), (b15, .inl (g.2.1 1, 132, .inl ((rdv n0 (ub rtp) v P9 S9).2.2.2.2.2.2.2.2.2.2.2.2.2.1))), (b16, .inl (g.2.1 1, 132, .inl ((rdv n0 (ub rtp) v P9 S9).2.2.2.2.2.2.2.2.2.2.2.2.2.2.1))), (b17, .inl (g.2.1 3, 132, .inl ((rdv n0 (ub rtp) v P9 S9).2.2.2.2.2.2.2.2.2.2.2.2.2.2.2)))]) [0, 1, 2, 3, 4, 5, 6, 7, 8, 9, 10, 11, 12, 13] rfl rfl (⟨rfl, rfl⟩) ⟨Nat.le_of_ble_eq_true rfl, Nat.le_of_ble_eq_true rfl⟩ dX12_valley_22

def F_X12_valleyF  : Int32 := (-1 : Int32)
set_option maxHeartbeats 4000000 in
set_option maxRecDepth 100000 in
theorem K_X12_valleyF (l : Launch) (g : GG) (h0 : Nat) (vs : List Value) (nv : Nat) (hlen : vs.length = 64) (h18_ : vs[18]? = some (.int (nI nv))) (hfull : nv = 10) : MetI l g yX12_valley cX12_valley 2 (some .int) 0 0 0 [.ref h0] [(h0, .inr (12, vs))] (fun r u => r = F_X12_valleyF ∧ u = [(h0, .inr (12, (vs.set 0 (.int 0))))]) := by
  refine MetI.of (own := RX12) rfl (by decide) (Nat.le_of_ble_eq_true rfl) ?_
  intro p e s m below meth c A ls args Q hQ X hr hin hW hl
  have hx := X.1
  have hb := X.2.1
  have hl : lv_has ls 2 [(0, .ref h0)] := hl
  refine lv_aload_n (pc := 0) hx hb dX12_valley_0 rfl (lv_at hl 0 rfl) ?_
  refine lv_iconst (v := 0) (pc := 1) hx hb dX12_valley_1 (by decide) ?_
  refine r_put (ws' := [(h0, .inr (12, (vs.set 0 (.int 0))))]) X hW 0 ciX12 0 rfl (by decide) m_1231 rfl rfl rfl rfl (sv_lt (by decide) hlen) rfl dX12_valley_2 (fun H locs hW => ?_)
  refine lv_aload_n (pc := 5) hx hb dX12_valley_5 rfl (lv_at hl 0 rfl) ?_
  refine r_get X hW 0 ciX12 18 rfl (by decide) m_1249 rfl (sv_ne (k := 0) (by decide) h18_) dX12_valley_6 ?_
  refine lv_bipush (v := 10) (pc := 9) hx hb dX12_valley_9 (by decide) ?_
  refine lv_icmp_eq (tgt := 21) (pc := 11) hx hb dX12_valley_11 rfl (fun c1 => ?_) (fun c1 => absurd (congrArg nI hfull) c1)
  refine lv_iconst (v := (-1)) (pc := 21) hx hb dX12_valley_21 (by decide) ?_
  have hF : F_X12_valleyF = (-1 : Int32) := show F_X12_valleyF = (-1 : Int32) from rfl
  exact e_i (u := [(h0, .inr (12, (vs.set 0 (.int 0))))]) X hQ hr (hW) [0] rfl rfl (⟨hF.symm, rfl⟩) ⟨Nat.le_of_ble_eq_true rfl, Nat.le_of_ble_eq_true rfl⟩ dX12_valley_22

theorem dX11_valleyAt_16 : decode cX11_valleyAt 16 = .ok (.aload_n 0, 1) := DX11_valleyAt _ _ _ rfl
theorem dX11_valleyAt_17 : decode cX11_valleyAt 17 = .ok (.getfield 18, 3) := DX11_valleyAt _ _ _ rfl
theorem dX11_valleyAt_20 : decode cX11_valleyAt 20 = .ok (.iload_n 1, 1) := DX11_valleyAt _ _ _ rfl
theorem dX11_valleyAt_21 : decode cX11_valleyAt 21 = .ok (.aaload, 1) := DX11_valleyAt _ _ _ rfl
theorem dX11_planAt_16 : decode cX11_planAt 16 = .ok (.aload_n 0, 1) := DX11_planAt _ _ _ rfl
theorem dX11_planAt_17 : decode cX11_planAt 17 = .ok (.getfield 24, 3) := DX11_planAt _ _ _ rfl
theorem dX11_planAt_20 : decode cX11_planAt 20 = .ok (.iload_n 1, 1) := DX11_planAt _ _ _ rfl
theorem dX11_planAt_21 : decode cX11_planAt 21 = .ok (.aaload, 1) := DX11_planAt _ _ _ rfl
theorem dX11_isHour_0 : decode cX11_isHour 0 = .ok (.iload_n 0, 1) := DX11_isHour _ _ _ rfl
theorem dX11_isHour_1 : decode cX11_isHour 1 = .ok (.iconst 1, 1) := DX11_isHour _ _ _ rfl
theorem dX11_isHour_2 : decode cX11_isHour 2 = .ok (.if_icmp .lt 13, 3) := DX11_isHour _ _ _ rfl
theorem dX11_isHour_15 : decode cX11_isHour 15 = .ok (.iconst 0, 1) := DX11_isHour _ _ _ rfl
theorem dX11_isHour_16 : decode cX11_isHour 16 = .ok (.ireturn, 1) := DX11_isHour _ _ _ rfl
theorem dX11_isHour_5 : decode cX11_isHour 5 = .ok (.iload_n 0, 1) := DX11_isHour _ _ _ rfl
theorem dX11_isHour_6 : decode cX11_isHour 6 = .ok (.bipush 24, 2) := DX11_isHour _ _ _ rfl
theorem dX11_isHour_8 : decode cX11_isHour 8 = .ok (.if_icmp .gt 7, 3) := DX11_isHour _ _ _ rfl
theorem dX11_isHour_11 : decode cX11_isHour 11 = .ok (.iconst 1, 1) := DX11_isHour _ _ _ rfl
theorem dX11_isHour_12 : decode cX11_isHour 12 = .ok (.goto 4, 3) := DX11_isHour _ _ _ rfl
theorem dX11_isHourOrFirst_0 : decode cX11_isHourOrFirst 0 = .ok (.iload_n 0, 1) := DX11_isHourOrFirst _ _ _ rfl
theorem dX11_isHourOrFirst_1 : decode cX11_isHourOrFirst 1 = .ok (.ifCond .lt 13, 3) := DX11_isHourOrFirst _ _ _ rfl
theorem dX11_isHourOrFirst_14 : decode cX11_isHourOrFirst 14 = .ok (.iconst 0, 1) := DX11_isHourOrFirst _ _ _ rfl
theorem dX11_isHourOrFirst_15 : decode cX11_isHourOrFirst 15 = .ok (.ireturn, 1) := DX11_isHourOrFirst _ _ _ rfl
theorem dX11_isHourOrFirst_4 : decode cX11_isHourOrFirst 4 = .ok (.iload_n 0, 1) := DX11_isHourOrFirst _ _ _ rfl
theorem dX11_isHourOrFirst_5 : decode cX11_isHourOrFirst 5 = .ok (.bipush 24, 2) := DX11_isHourOrFirst _ _ _ rfl
theorem dX11_isHourOrFirst_7 : decode cX11_isHourOrFirst 7 = .ok (.if_icmp .gt 7, 3) := DX11_isHourOrFirst _ _ _ rfl
theorem dX11_isHourOrFirst_10 : decode cX11_isHourOrFirst 10 = .ok (.iconst 1, 1) := DX11_isHourOrFirst _ _ _ rfl
theorem dX11_isHourOrFirst_11 : decode cX11_isHourOrFirst 11 = .ok (.goto 4, 3) := DX11_isHourOrFirst _ _ _ rfl
theorem dX11_isNews_0 : decode cX11_isNews 0 = .ok (.iload_n 0, 1) := DX11_isNews _ _ _ rfl
theorem dX11_isNews_1 : decode cX11_isNews 1 = .ok (.ifCond .lt 12, 3) := DX11_isNews _ _ _ rfl
theorem dX11_isNews_13 : decode cX11_isNews 13 = .ok (.iconst 0, 1) := DX11_isNews _ _ _ rfl
theorem dX11_isNews_14 : decode cX11_isNews 14 = .ok (.ireturn, 1) := DX11_isNews _ _ _ rfl
theorem dX11_isNews_4 : decode cX11_isNews 4 = .ok (.iload_n 0, 1) := DX11_isNews _ _ _ rfl
theorem dX11_isNews_5 : decode cX11_isNews 5 = .ok (.iconst 4, 1) := DX11_isNews _ _ _ rfl
theorem dX11_isNews_6 : decode cX11_isNews 6 = .ok (.if_icmp .ge 7, 3) := DX11_isNews _ _ _ rfl
theorem dX11_isNews_9 : decode cX11_isNews 9 = .ok (.iconst 1, 1) := DX11_isNews _ _ _ rfl
theorem dX11_isNews_10 : decode cX11_isNews 10 = .ok (.goto 4, 3) := DX11_isNews _ _ _ rfl
theorem dX11_down_12 : decode cX11_down 12 = .ok (.aload 4, 2) := DX11_down _ _ _ rfl
theorem dX11_down_14 : decode cX11_down 14 = .ok (.iload_n 2, 1) := DX11_down _ _ _ rfl
theorem dX11_down_15 : decode cX11_down 15 = .ok (.invokevirtual 124, 3) := DX11_down _ _ _ rfl
theorem dX11_down_18 : decode cX11_down 18 = .ok (.ifCond .eq 15, 3) := DX11_down _ _ _ rfl
theorem dX11_down_21 : decode cX11_down 21 = .ok (.iload_n 3, 1) := DX11_down _ _ _ rfl
theorem dX11_down_22 : decode cX11_down 22 = .ok (.iconst (-1), 1) := DX11_down _ _ _ rfl
theorem dX11_down_23 : decode cX11_down 23 = .ok (.if_icmp .eq 12, 3) := DX11_down _ _ _ rfl
theorem dX11_down_35 : decode cX11_down 35 = .ok (.aload 4, 2) := DX11_down _ _ _ rfl
theorem dX11_down_37 : decode cX11_down 37 = .ok (.iload_n 2, 1) := DX11_down _ _ _ rfl
theorem dX11_down_38 : decode cX11_down 38 = .ok (.iload_n 3, 1) := DX11_down _ _ _ rfl
theorem dX11_down_39 : decode cX11_down 39 = .ok (.invokevirtual 137, 3) := DX11_down _ _ _ rfl
theorem dX11_down_42 : decode cX11_down 42 = .ok (.iconst 1, 1) := DX11_down _ _ _ rfl
theorem dX11_down_43 : decode cX11_down 43 = .ok (.ireturn, 1) := DX11_down _ _ _ rfl
theorem dX11_down_26 : decode cX11_down 26 = .ok (.iload_n 3, 1) := DX11_down _ _ _ rfl
theorem dX11_down_27 : decode cX11_down 27 = .ok (.invokestatic 134, 3) := DX11_down _ _ _ rfl
theorem dX11_down_30 : decode cX11_down 30 = .ok (.ifCond .ne 5, 3) := DX11_down _ _ _ rfl
theorem dX11_card_12 : decode cX11_card 12 = .ok (.aload 4, 2) := DX11_card _ _ _ rfl
theorem dX11_card_14 : decode cX11_card 14 = .ok (.iload_n 2, 1) := DX11_card _ _ _ rfl
theorem dX11_card_15 : decode cX11_card 15 = .ok (.iload_n 3, 1) := DX11_card _ _ _ rfl
theorem dX11_card_16 : decode cX11_card 16 = .ok (.invokevirtual 141, 3) := DX11_card _ _ _ rfl
theorem dX11_card_19 : decode cX11_card 19 = .ok (.ifCond .ne 5, 3) := DX11_card _ _ _ rfl
theorem dX11_card_24 : decode cX11_card 24 = .ok (.aload 4, 2) := DX11_card _ _ _ rfl
theorem dX11_card_26 : decode cX11_card 26 = .ok (.iload_n 2, 1) := DX11_card _ _ _ rfl
theorem dX11_card_27 : decode cX11_card 27 = .ok (.iload_n 3, 1) := DX11_card _ _ _ rfl
theorem dX11_card_28 : decode cX11_card 28 = .ok (.invokevirtual 270, 3) := DX11_card _ _ _ rfl
theorem dX11_card_31 : decode cX11_card 31 = .ok (.ireturn, 1) := DX11_card _ _ _ rfl
theorem dX11_blank_12 : decode cX11_blank 12 = .ok (.aload_n 2, 1) := DX11_blank _ _ _ rfl
theorem dX11_blank_13 : decode cX11_blank 13 = .ok (.invokevirtual 273, 3) := DX11_blank _ _ _ rfl
theorem dX11_blank_16 : decode cX11_blank 16 = .ok (.iconst 1, 1) := DX11_blank _ _ _ rfl
theorem dX11_blank_17 : decode cX11_blank 17 = .ok (.ireturn, 1) := DX11_blank _ _ _ rfl
theorem dX11_tale_12 : decode cX11_tale 12 = .ok (.iload_n 2, 1) := DX11_tale _ _ _ rfl
theorem dX11_tale_13 : decode cX11_tale 13 = .ok (.invokestatic 208, 3) := DX11_tale _ _ _ rfl
theorem dX11_tale_16 : decode cX11_tale 16 = .ok (.ifCond .eq 26, 3) := DX11_tale _ _ _ rfl
theorem dX11_tale_19 : decode cX11_tale 19 = .ok (.aload 5, 2) := DX11_tale _ _ _ rfl
theorem dX11_tale_21 : decode cX11_tale 21 = .ok (.iload_n 3, 1) := DX11_tale _ _ _ rfl
theorem dX11_tale_22 : decode cX11_tale 22 = .ok (.invokevirtual 168, 3) := DX11_tale _ _ _ rfl
theorem dX11_tale_25 : decode cX11_tale 25 = .ok (.ifCond .eq 17, 3) := DX11_tale _ _ _ rfl
theorem dX11_tale_28 : decode cX11_tale 28 = .ok (.iload 4, 2) := DX11_tale _ _ _ rfl
theorem dX11_tale_30 : decode cX11_tale 30 = .ok (.iconst (-1), 1) := DX11_tale _ _ _ rfl
theorem dX11_tale_31 : decode cX11_tale 31 = .ok (.if_icmp .eq 13, 3) := DX11_tale _ _ _ rfl
theorem dX11_tale_44 : decode cX11_tale 44 = .ok (.aload 5, 2) := DX11_tale _ _ _ rfl
theorem dX11_tale_46 : decode cX11_tale 46 = .ok (.iload_n 2, 1) := DX11_tale _ _ _ rfl
theorem dX11_tale_47 : decode cX11_tale 47 = .ok (.iload_n 3, 1) := DX11_tale _ _ _ rfl
theorem dX11_tale_48 : decode cX11_tale 48 = .ok (.iload 4, 2) := DX11_tale _ _ _ rfl
theorem dX11_tale_50 : decode cX11_tale 50 = .ok (.invokevirtual 308, 3) := DX11_tale _ _ _ rfl
theorem dX11_tale_53 : decode cX11_tale 53 = .ok (.iconst 1, 1) := DX11_tale _ _ _ rfl
theorem dX11_tale_54 : decode cX11_tale 54 = .ok (.ireturn, 1) := DX11_tale _ _ _ rfl
theorem dX11_tale_34 : decode cX11_tale 34 = .ok (.iload 4, 2) := DX11_tale _ _ _ rfl
theorem dX11_tale_36 : decode cX11_tale 36 = .ok (.invokestatic 186, 3) := DX11_tale _ _ _ rfl
theorem dX11_tale_39 : decode cX11_tale 39 = .ok (.ifCond .ne 5, 3) := DX11_tale _ _ _ rfl
def tmod (x : Int32) : Int32 := x - x / 4 * 4
set_option maxHeartbeats 4000000 in
set_option maxRecDepth 100000 in
theorem C_X11_valleyAt1 (l : Launch) (g : GG) (h0 : Nat) (a0 : Nat) (a1 : Nat) (a2 : Nat) (a3 : Nat) (a4 : Nat) (a5 : Nat) (a6 : Nat) (a7 : Nat) (a8 : Nat) (a9 : Nat) (a10 : Nat) (nv : Nat) (np : Nat) (cc : Int32) (fA : Nat → Option Nat) (i : Nat) (v : Nat) (hi : i < nv) (hn : nv ≤ 10) (hA : fA i = some v) : MetQ l g yX11_valleyAt cX11_valleyAt 2 (some (.object "NoonValley$Valley")) 0 0 0 [.ref h0, .int (nI i)] [(h0, .inr (11, [.ref a0, .ref a1, .ref a2, .ref a3, .ref a4, .ref a5, .ref a6, .ref a7, .ref a8, .ref a9, .ref a10, .int (nI nv), .int (nI np), .int cc])), (a1, .inl (g.2.1 4, 10, .inr (.inr (.inr (.inr fA)))))] (fun r u => r = some v ∧ u = [(h0, .inr (11, [.ref a0, .ref a1, .ref a2, .ref a3, .ref a4, .ref a5, .ref a6, .ref a7, .ref a8, .ref a9, .ref a10, .int (nI nv), .int (nI np), .int cc])), (a1, .inl (g.2.1 4, 10, .inr (.inr (.inr (.inr fA)))))]) := by
  refine MetQ.of (own := RX11) rfl (by decide) (Nat.le_of_ble_eq_true rfl) ?_
  intro p e s m below meth c A ls args Q hQ X hr hin hW hl
  have hx := X.1
  have hb := X.2.1
  have hl : lv_has ls 2 [(0, .ref h0), (1, .int (nI i))] := hl
  refine lv_iload_n (pc := 0) hx hb dX11_valleyAt_0 rfl (lv_at hl 1 rfl) ?_
  refine lv_if_lt (tgt := 12) (pc := 1) hx hb dX11_valleyAt_1 rfl (fun c1 => absurd c1 (nI_nn (by omega))) (fun c1 => ?_)
  refine lv_iload_n (pc := 4) hx hb dX11_valleyAt_4 rfl (lv_at hl 1 rfl) ?_
  refine lv_aload_n (pc := 5) hx hb dX11_valleyAt_5 rfl (lv_at hl 0 rfl) ?_
  refine r_get X hW 0 ciX11 11 rfl (by decide) m_364 rfl rfl dX11_valleyAt_6 ?_
  refine lv_icmp_lt (tgt := 16) (pc := 9) hx hb dX11_valleyAt_9 rfl (fun c2 => ?_) (fun c2 => absurd ((nI_ltI (by omega) (by omega)).mpr hi) c2)
  refine lv_aload_n (pc := 16) hx hb dX11_valleyAt_16 rfl (lv_at hl 0 rfl) ?_
  refine r_get X hW 0 ciX11 1 rfl (by decide) m_354 rfl rfl dX11_valleyAt_17 ?_
  refine lv_iload_n (pc := 20) hx hb dX11_valleyAt_20 rfl (lv_at hl 1 rfl) ?_
  refine va_aldq (pc := 21) hx hb X.2.2.2.2.2.1.1 hW.1 1 4 rfl rfl (vp_in_nI (by omega) (by decide)) dX11_valleyAt_21 ?_
  rw [show fA (nI i).toNatClampNeg = some v from (by rw [nI_clamp (by omega)]; exact hA)]
  exact e_q X hQ hr (Or.inl ⟨_, rfl⟩) hW (u := [(h0, .inr (11, [.ref a0, .ref a1, .ref a2, .ref a3, .ref a4, .ref a5, .ref a6, .ref a7, .ref a8, .ref a9, .ref a10, .int (nI nv), .int (nI np), .int cc])), (a1, .inl (g.2.1 4, 10, .inr (.inr (.inr (.inr fA)))))]) (some v) rfl [0, 1] rfl rfl (⟨rfl, rfl⟩) ⟨Nat.le_of_ble_eq_true rfl, Nat.le_of_ble_eq_true rfl⟩ dX11_valleyAt_22

set_option maxHeartbeats 4000000 in
set_option maxRecDepth 100000 in
theorem C_X11_valleyAt0 (l : Launch) (g : GG) (h0 : Nat) (a0 : Nat) (a1 : Nat) (a2 : Nat) (a3 : Nat) (a4 : Nat) (a5 : Nat) (a6 : Nat) (a7 : Nat) (a8 : Nat) (a9 : Nat) (a10 : Nat) (nv : Nat) (np : Nat) (cc : Int32) (fA : Nat → Option Nat) (x : Int32) (hbad : x < 0 ∨ nI nv ≤ x) : MetQ l g yX11_valleyAt cX11_valleyAt 2 (some (.object "NoonValley$Valley")) 0 0 0 [.ref h0, .int x] [(h0, .inr (11, [.ref a0, .ref a1, .ref a2, .ref a3, .ref a4, .ref a5, .ref a6, .ref a7, .ref a8, .ref a9, .ref a10, .int (nI nv), .int (nI np), .int cc])), (a1, .inl (g.2.1 4, 10, .inr (.inr (.inr (.inr fA)))))] (fun r u => r = none ∧ u = [(h0, .inr (11, [.ref a0, .ref a1, .ref a2, .ref a3, .ref a4, .ref a5, .ref a6, .ref a7, .ref a8, .ref a9, .ref a10, .int (nI nv), .int (nI np), .int cc])), (a1, .inl (g.2.1 4, 10, .inr (.inr (.inr (.inr fA)))))]) := by
  refine MetQ.of (own := RX11) rfl (by decide) (Nat.le_of_ble_eq_true rfl) ?_
  intro p e s m below meth c A ls args Q hQ X hr hin hW hl
  have hx := X.1
  have hb := X.2.1
  have hl : lv_has ls 2 [(0, .ref h0), (1, .int x)] := hl
  refine lv_iload_n (pc := 0) hx hb dX11_valleyAt_0 rfl (lv_at hl 1 rfl) ?_
  refine lv_if_lt (tgt := 12) (pc := 1) hx hb dX11_valleyAt_1 rfl (fun c1 => ?_) (fun c1 => ?_)
  · refine lv_null (pc := 12) hx hb dX11_valleyAt_12 ?_
    refine lv_goto (tgt := 22) (pc := 13) hx hb dX11_valleyAt_13 rfl ?_
    exact e_q X hQ hr (Or.inl ⟨_, rfl⟩) hW (u := [(h0, .inr (11, [.ref a0, .ref a1, .ref a2, .ref a3, .ref a4, .ref a5, .ref a6, .ref a7, .ref a8, .ref a9, .ref a10, .int (nI nv), .int (nI np), .int cc])), (a1, .inl (g.2.1 4, 10, .inr (.inr (.inr (.inr fA)))))]) none rfl [0, 1] rfl rfl (⟨rfl, rfl⟩) ⟨Nat.le_of_ble_eq_true rfl, Nat.le_of_ble_eq_true rfl⟩ dX11_valleyAt_22
  · have b1_ := c1
    refine lv_iload_n (pc := 4) hx hb dX11_valleyAt_4 rfl (lv_at hl 1 rfl) ?_
    refine lv_aload_n (pc := 5) hx hb dX11_valleyAt_5 rfl (lv_at hl 0 rfl) ?_
    refine r_get X hW 0 ciX11 11 rfl (by decide) m_364 rfl rfl dX11_valleyAt_6 ?_
    refine lv_icmp_lt (tgt := 16) (pc := 9) hx hb dX11_valleyAt_9 rfl (fun c2 => ?_) (fun c2 => ?_)
    · exact hbad.elim (fun q => absurd q b1_) (fun q => absurd c2 (Int32.not_lt.mpr q))
    · refine lv_null (pc := 12) hx hb dX11_valleyAt_12 ?_
      refine lv_goto (tgt := 22) (pc := 13) hx hb dX11_valleyAt_13 rfl ?_
      exact e_q X hQ hr (Or.inl ⟨_, rfl⟩) hW (u := [(h0, .inr (11, [.ref a0, .ref a1, .ref a2, .ref a3, .ref a4, .ref a5, .ref a6, .ref a7, .ref a8, .ref a9, .ref a10, .int (nI nv), .int (nI np), .int cc])), (a1, .inl (g.2.1 4, 10, .inr (.inr (.inr (.inr fA)))))]) none rfl [0, 1] rfl rfl (⟨rfl, rfl⟩) ⟨Nat.le_of_ble_eq_true rfl, Nat.le_of_ble_eq_true rfl⟩ dX11_valleyAt_22

set_option maxHeartbeats 4000000 in
set_option maxRecDepth 100000 in
theorem C_X11_planAt1 (l : Launch) (g : GG) (h0 : Nat) (a0 : Nat) (a1 : Nat) (a2 : Nat) (a3 : Nat) (a4 : Nat) (a5 : Nat) (a6 : Nat) (a7 : Nat) (a8 : Nat) (a9 : Nat) (a10 : Nat) (nv : Nat) (np : Nat) (cc : Int32) (fB : Nat → Option Nat) (i : Nat) (v : Nat) (hi : i < np) (hn : np ≤ 12) (hA : fB i = some v) : MetQ l g yX11_planAt cX11_planAt 2 (some (.object "NoonValley$Plan")) 0 0 0 [.ref h0, .int (nI i)] [(h0, .inr (11, [.ref a0, .ref a1, .ref a2, .ref a3, .ref a4, .ref a5, .ref a6, .ref a7, .ref a8, .ref a9, .ref a10, .int (nI nv), .int (nI np), .int cc])), (a2, .inl (g.2.1 5, 12, .inr (.inr (.inr (.inr fB)))))] (fun r u => r = some v ∧ u = [(h0, .inr (11, [.ref a0, .ref a1, .ref a2, .ref a3, .ref a4, .ref a5, .ref a6, .ref a7, .ref a8, .ref a9, .ref a10, .int (nI nv), .int (nI np), .int cc])), (a2, .inl (g.2.1 5, 12, .inr (.inr (.inr (.inr fB)))))]) := by
  refine MetQ.of (own := RX11) rfl (by decide) (Nat.le_of_ble_eq_true rfl) ?_
  intro p e s m below meth c A ls args Q hQ X hr hin hW hl
  have hx := X.1
  have hb := X.2.1
  have hl : lv_has ls 2 [(0, .ref h0), (1, .int (nI i))] := hl
  refine lv_iload_n (pc := 0) hx hb dX11_planAt_0 rfl (lv_at hl 1 rfl) ?_
  refine lv_if_lt (tgt := 12) (pc := 1) hx hb dX11_planAt_1 rfl (fun c1 => absurd c1 (nI_nn (by omega))) (fun c1 => ?_)
  refine lv_iload_n (pc := 4) hx hb dX11_planAt_4 rfl (lv_at hl 1 rfl) ?_
  refine lv_aload_n (pc := 5) hx hb dX11_planAt_5 rfl (lv_at hl 0 rfl) ?_
  refine r_get X hW 0 ciX11 12 rfl (by decide) m_365 rfl rfl dX11_planAt_6 ?_
  refine lv_icmp_lt (tgt := 16) (pc := 9) hx hb dX11_planAt_9 rfl (fun c2 => ?_) (fun c2 => absurd ((nI_ltI (by omega) (by omega)).mpr hi) c2)
  refine lv_aload_n (pc := 16) hx hb dX11_planAt_16 rfl (lv_at hl 0 rfl) ?_
  refine r_get X hW 0 ciX11 2 rfl (by decide) m_355 rfl rfl dX11_planAt_17 ?_
  refine lv_iload_n (pc := 20) hx hb dX11_planAt_20 rfl (lv_at hl 1 rfl) ?_
  refine va_aldq (pc := 21) hx hb X.2.2.2.2.2.1.1 hW.1 1 5 rfl rfl (vp_in_nI (by omega) (by decide)) dX11_planAt_21 ?_
  rw [show fB (nI i).toNatClampNeg = some v from (by rw [nI_clamp (by omega)]; exact hA)]
  exact e_q X hQ hr (Or.inl ⟨_, rfl⟩) hW (u := [(h0, .inr (11, [.ref a0, .ref a1, .ref a2, .ref a3, .ref a4, .ref a5, .ref a6, .ref a7, .ref a8, .ref a9, .ref a10, .int (nI nv), .int (nI np), .int cc])), (a2, .inl (g.2.1 5, 12, .inr (.inr (.inr (.inr fB)))))]) (some v) rfl [0, 1] rfl rfl (⟨rfl, rfl⟩) ⟨Nat.le_of_ble_eq_true rfl, Nat.le_of_ble_eq_true rfl⟩ dX11_planAt_22

set_option maxHeartbeats 4000000 in
set_option maxRecDepth 100000 in
theorem C_X11_planAt0 (l : Launch) (g : GG) (h0 : Nat) (a0 : Nat) (a1 : Nat) (a2 : Nat) (a3 : Nat) (a4 : Nat) (a5 : Nat) (a6 : Nat) (a7 : Nat) (a8 : Nat) (a9 : Nat) (a10 : Nat) (nv : Nat) (np : Nat) (cc : Int32) (fB : Nat → Option Nat) (x : Int32) (hbad : x < 0 ∨ nI np ≤ x) : MetQ l g yX11_planAt cX11_planAt 2 (some (.object "NoonValley$Plan")) 0 0 0 [.ref h0, .int x] [(h0, .inr (11, [.ref a0, .ref a1, .ref a2, .ref a3, .ref a4, .ref a5, .ref a6, .ref a7, .ref a8, .ref a9, .ref a10, .int (nI nv), .int (nI np), .int cc])), (a2, .inl (g.2.1 5, 12, .inr (.inr (.inr (.inr fB)))))] (fun r u => r = none ∧ u = [(h0, .inr (11, [.ref a0, .ref a1, .ref a2, .ref a3, .ref a4, .ref a5, .ref a6, .ref a7, .ref a8, .ref a9, .ref a10, .int (nI nv), .int (nI np), .int cc])), (a2, .inl (g.2.1 5, 12, .inr (.inr (.inr (.inr fB)))))]) := by
  refine MetQ.of (own := RX11) rfl (by decide) (Nat.le_of_ble_eq_true rfl) ?_
  intro p e s m below meth c A ls args Q hQ X hr hin hW hl
  have hx := X.1
  have hb := X.2.1
  have hl : lv_has ls 2 [(0, .ref h0), (1, .int x)] := hl
  refine lv_iload_n (pc := 0) hx hb dX11_planAt_0 rfl (lv_at hl 1 rfl) ?_
  refine lv_if_lt (tgt := 12) (pc := 1) hx hb dX11_planAt_1 rfl (fun c1 => ?_) (fun c1 => ?_)
  · refine lv_null (pc := 12) hx hb dX11_planAt_12 ?_
    refine lv_goto (tgt := 22) (pc := 13) hx hb dX11_planAt_13 rfl ?_
    exact e_q X hQ hr (Or.inl ⟨_, rfl⟩) hW (u := [(h0, .inr (11, [.ref a0, .ref a1, .ref a2, .ref a3, .ref a4, .ref a5, .ref a6, .ref a7, .ref a8, .ref a9, .ref a10, .int (nI nv), .int (nI np), .int cc])), (a2, .inl (g.2.1 5, 12, .inr (.inr (.inr (.inr fB)))))]) none rfl [0, 1] rfl rfl (⟨rfl, rfl⟩) ⟨Nat.le_of_ble_eq_true rfl, Nat.le_of_ble_eq_true rfl⟩ dX11_planAt_22
  · have b1_ := c1
    refine lv_iload_n (pc := 4) hx hb dX11_planAt_4 rfl (lv_at hl 1 rfl) ?_
    refine lv_aload_n (pc := 5) hx hb dX11_planAt_5 rfl (lv_at hl 0 rfl) ?_
    refine r_get X hW 0 ciX11 12 rfl (by decide) m_365 rfl rfl dX11_planAt_6 ?_
    refine lv_icmp_lt (tgt := 16) (pc := 9) hx hb dX11_planAt_9 rfl (fun c2 => ?_) (fun c2 => ?_)
    · exact hbad.elim (fun q => absurd q b1_) (fun q => absurd c2 (Int32.not_lt.mpr q))
    · refine lv_null (pc := 12) hx hb dX11_planAt_12 ?_
      refine lv_goto (tgt := 22) (pc := 13) hx hb dX11_planAt_13 rfl ?_
      exact e_q X hQ hr (Or.inl ⟨_, rfl⟩) hW (u := [(h0, .inr (11, [.ref a0, .ref a1, .ref a2, .ref a3, .ref a4, .ref a5, .ref a6, .ref a7, .ref a8, .ref a9, .ref a10, .int (nI nv), .int (nI np), .int cc])), (a2, .inl (g.2.1 5, 12, .inr (.inr (.inr (.inr fB)))))]) none rfl [0, 1] rfl rfl (⟨rfl, rfl⟩) ⟨Nat.le_of_ble_eq_true rfl, Nat.le_of_ble_eq_true rfl⟩ dX11_planAt_22

def F_X11_isHour (h : Int32) : Int32 := if h < 1 then ((0 : Int32)) else (if 24 < h then ((0 : Int32)) else ((1 : Int32)))
set_option maxHeartbeats 4000000 in
set_option maxRecDepth 100000 in
theorem K_X11_isHour (l : Launch) (g : GG) (h : Int32)  : MetI l g yX11_isHour cX11_isHour 1 (some .boolean) 0 0 0 [.int h] [] (fun r u => r = (F_X11_isHour h) ∧ u = []) := by
  refine MetI.of (own := RX11) rfl (by decide) (Nat.le_of_ble_eq_true rfl) ?_
  intro p e s m below meth c A ls args Q hQ X hr hin hW hl
  have hx := X.1
  have hb := X.2.1
  have hl : lv_has ls 1 [(0, .int h)] := hl
  refine lv_iload_n (pc := 0) hx hb dX11_isHour_0 rfl (lv_at hl 0 rfl) ?_
  refine lv_iconst (v := 1) (pc := 1) hx hb dX11_isHour_1 (by decide) ?_
  refine lv_icmp_lt (tgt := 15) (pc := 2) hx hb dX11_isHour_2 rfl (fun c1 => ?_) (fun c1 => ?_)
  · refine lv_iconst (v := 0) (pc := 15) hx hb dX11_isHour_15 (by decide) ?_
    have hF : F_X11_isHour h = (0 : Int32) := show F_X11_isHour h = (0 : Int32) from by rw [F_X11_isHour, if_pos c1]
    exact e_z (u := []) X hQ hr (hW) rfl [] rfl rfl (⟨hF.symm, rfl⟩) ⟨Nat.le_of_ble_eq_true rfl, Nat.le_of_ble_eq_true rfl⟩ dX11_isHour_16
  · refine lv_iload_n (pc := 5) hx hb dX11_isHour_5 rfl (lv_at hl 0 rfl) ?_
    refine lv_bipush (v := 24) (pc := 6) hx hb dX11_isHour_6 (by decide) ?_
    refine lv_icmp_gt (tgt := 15) (pc := 8) hx hb dX11_isHour_8 rfl (fun c4 => ?_) (fun c4 => ?_)
    · refine lv_iconst (v := 0) (pc := 15) hx hb dX11_isHour_15 (by decide) ?_
      have hF : F_X11_isHour h = (0 : Int32) := show F_X11_isHour h = (0 : Int32) from by rw [F_X11_isHour, if_neg c1, if_pos c4]
      exact e_z (u := []) X hQ hr (hW) rfl [] rfl rfl (⟨hF.symm, rfl⟩) ⟨Nat.le_of_ble_eq_true rfl, Nat.le_of_ble_eq_true rfl⟩ dX11_isHour_16
    · refine lv_iconst (v := 1) (pc := 11) hx hb dX11_isHour_11 (by decide) ?_
      refine lv_goto (tgt := 16) (pc := 12) hx hb dX11_isHour_12 rfl ?_
      have hF : F_X11_isHour h = (1 : Int32) := show F_X11_isHour h = (1 : Int32) from by rw [F_X11_isHour, if_neg c1, if_neg c4]
      exact e_z (u := []) X hQ hr (hW) rfl [] rfl rfl (⟨hF.symm, rfl⟩) ⟨Nat.le_of_ble_eq_true rfl, Nat.le_of_ble_eq_true rfl⟩ dX11_isHour_16

def F_X11_isHourOrFirst (h : Int32) : Int32 := if h < 0 then ((0 : Int32)) else (if 24 < h then ((0 : Int32)) else ((1 : Int32)))
set_option maxHeartbeats 4000000 in
set_option maxRecDepth 100000 in
theorem K_X11_isHourOrFirst (l : Launch) (g : GG) (h : Int32)  : MetI l g yX11_isHourOrFirst cX11_isHourOrFirst 1 (some .boolean) 0 0 0 [.int h] [] (fun r u => r = (F_X11_isHourOrFirst h) ∧ u = []) := by
  refine MetI.of (own := RX11) rfl (by decide) (Nat.le_of_ble_eq_true rfl) ?_
  intro p e s m below meth c A ls args Q hQ X hr hin hW hl
  have hx := X.1
  have hb := X.2.1
  have hl : lv_has ls 1 [(0, .int h)] := hl
  refine lv_iload_n (pc := 0) hx hb dX11_isHourOrFirst_0 rfl (lv_at hl 0 rfl) ?_
  refine lv_if_lt (tgt := 14) (pc := 1) hx hb dX11_isHourOrFirst_1 rfl (fun c1 => ?_) (fun c1 => ?_)
  · refine lv_iconst (v := 0) (pc := 14) hx hb dX11_isHourOrFirst_14 (by decide) ?_
    have hF : F_X11_isHourOrFirst h = (0 : Int32) := show F_X11_isHourOrFirst h = (0 : Int32) from by rw [F_X11_isHourOrFirst, if_pos c1]
    exact e_z (u := []) X hQ hr (hW) rfl [] rfl rfl (⟨hF.symm, rfl⟩) ⟨Nat.le_of_ble_eq_true rfl, Nat.le_of_ble_eq_true rfl⟩ dX11_isHourOrFirst_15
  · refine lv_iload_n (pc := 4) hx hb dX11_isHourOrFirst_4 rfl (lv_at hl 0 rfl) ?_
    refine lv_bipush (v := 24) (pc := 5) hx hb dX11_isHourOrFirst_5 (by decide) ?_
    refine lv_icmp_gt (tgt := 14) (pc := 7) hx hb dX11_isHourOrFirst_7 rfl (fun c4 => ?_) (fun c4 => ?_)
    · refine lv_iconst (v := 0) (pc := 14) hx hb dX11_isHourOrFirst_14 (by decide) ?_
      have hF : F_X11_isHourOrFirst h = (0 : Int32) := show F_X11_isHourOrFirst h = (0 : Int32) from by rw [F_X11_isHourOrFirst, if_neg c1, if_pos c4]
      exact e_z (u := []) X hQ hr (hW) rfl [] rfl rfl (⟨hF.symm, rfl⟩) ⟨Nat.le_of_ble_eq_true rfl, Nat.le_of_ble_eq_true rfl⟩ dX11_isHourOrFirst_15
    · refine lv_iconst (v := 1) (pc := 10) hx hb dX11_isHourOrFirst_10 (by decide) ?_
      refine lv_goto (tgt := 15) (pc := 11) hx hb dX11_isHourOrFirst_11 rfl ?_
      have hF : F_X11_isHourOrFirst h = (1 : Int32) := show F_X11_isHourOrFirst h = (1 : Int32) from by rw [F_X11_isHourOrFirst, if_neg c1, if_neg c4]
      exact e_z (u := []) X hQ hr (hW) rfl [] rfl rfl (⟨hF.symm, rfl⟩) ⟨Nat.le_of_ble_eq_true rfl, Nat.le_of_ble_eq_true rfl⟩ dX11_isHourOrFirst_15

def F_X11_isNews (x : Int32) : Int32 := if x < 0 then ((0 : Int32)) else (if 4 ≤ x then ((0 : Int32)) else ((1 : Int32)))
set_option maxHeartbeats 4000000 in
set_option maxRecDepth 100000 in
theorem K_X11_isNews (l : Launch) (g : GG) (x : Int32)  : MetI l g yX11_isNews cX11_isNews 1 (some .boolean) 0 0 0 [.int x] [] (fun r u => r = (F_X11_isNews x) ∧ u = []) := by
  refine MetI.of (own := RX11) rfl (by decide) (Nat.le_of_ble_eq_true rfl) ?_
  intro p e s m below meth c A ls args Q hQ X hr hin hW hl
  have hx := X.1
  have hb := X.2.1
  have hl : lv_has ls 1 [(0, .int x)] := hl
  refine lv_iload_n (pc := 0) hx hb dX11_isNews_0 rfl (lv_at hl 0 rfl) ?_
  refine lv_if_lt (tgt := 13) (pc := 1) hx hb dX11_isNews_1 rfl (fun c1 => ?_) (fun c1 => ?_)
  · refine lv_iconst (v := 0) (pc := 13) hx hb dX11_isNews_13 (by decide) ?_
    have hF : F_X11_isNews x = (0 : Int32) := show F_X11_isNews x = (0 : Int32) from by rw [F_X11_isNews, if_pos c1]
    exact e_z (u := []) X hQ hr (hW) rfl [] rfl rfl (⟨hF.symm, rfl⟩) ⟨Nat.le_of_ble_eq_true rfl, Nat.le_of_ble_eq_true rfl⟩ dX11_isNews_14
  · refine lv_iload_n (pc := 4) hx hb dX11_isNews_4 rfl (lv_at hl 0 rfl) ?_
    refine lv_iconst (v := 4) (pc := 5) hx hb dX11_isNews_5 (by decide) ?_
    refine lv_icmp_ge (tgt := 13) (pc := 6) hx hb dX11_isNews_6 rfl (fun c4 => ?_) (fun c4 => ?_)
    · refine lv_iconst (v := 0) (pc := 13) hx hb dX11_isNews_13 (by decide) ?_
      have hF : F_X11_isNews x = (0 : Int32) := show F_X11_isNews x = (0 : Int32) from by rw [F_X11_isNews, if_neg c1, if_pos c4]
      exact e_z (u := []) X hQ hr (hW) rfl [] rfl rfl (⟨hF.symm, rfl⟩) ⟨Nat.le_of_ble_eq_true rfl, Nat.le_of_ble_eq_true rfl⟩ dX11_isNews_14
    · refine lv_iconst (v := 1) (pc := 9) hx hb dX11_isNews_9 (by decide) ?_
      refine lv_goto (tgt := 14) (pc := 10) hx hb dX11_isNews_10 rfl ?_
      have hF : F_X11_isNews x = (1 : Int32) := show F_X11_isNews x = (1 : Int32) from by rw [F_X11_isNews, if_neg c1, if_neg c4]
      exact e_z (u := []) X hQ hr (hW) rfl [] rfl rfl (⟨hF.symm, rfl⟩) ⟨Nat.le_of_ble_eq_true rfl, Nat.le_of_ble_eq_true rfl⟩ dX11_isNews_14

theorem hl_at {x : Int32} {n : Nat} (hn : n < 2 ^ 31) (h : ¬ F_X10_hasLine (nI n) x = 0) : x = nI (tN x) ∧ tN x < n := by
  unfold F_X10_hasLine at h
  by_cases h1 : x < 0
  · rw [if_pos h1] at h; exact absurd rfl h
  · rw [if_neg h1] at h
    by_cases h2 : nI n ≤ x
    · rw [if_pos h2] at h; exact absurd rfl h
    · exact tN_in hn (Int32.not_lt.mp h1) (Int32.not_le.mp h2)
theorem hp_at {x : Int32} {n : Nat} (hn : n < 2 ^ 31) (h : ¬ F_X10_hasPerson (nI n) x = 0) : x = nI (tN x) ∧ tN x < n := by
  unfold F_X10_hasPerson at h
  by_cases h1 : x < 0
  · rw [if_pos h1] at h; exact absurd rfl h
  · rw [if_neg h1] at h
    by_cases h2 : nI n ≤ x
    · rw [if_pos h2] at h; exact absurd rfl h
    · exact tN_in hn (Int32.not_lt.mp h1) (Int32.not_le.mp h2)
theorem hc_at {x y : Int32} {n : Nat} (hn : n < 2 ^ 31) (h : ¬ F_X10_hasCouple (nI n) x y = 0) : (x = nI (tN x) ∧ tN x < n) ∧ (y = nI (tN y) ∧ tN y < n) ∧ ¬ x = y := by
  unfold F_X10_hasCouple at h
  by_cases h1 : F_X10_hasPerson (nI n) x = 0
  · rw [if_pos h1] at h; exact absurd rfl h
  · rw [if_neg h1] at h
    by_cases h2 : F_X10_hasPerson (nI n) y = 0
    · rw [if_pos h2] at h; exact absurd rfl h
    · rw [if_neg h2] at h
      by_cases h3 : x = y
      · rw [if_pos h3] at h; exact absurd rfl h
      · exact ⟨hp_at hn h1, hp_at hn h2, h3⟩
theorem bn_at {x : Int32} {lo hi : Nat} (hh : lo < 2 ^ 30 ∧ hi < 2 ^ 30) (h0 : nI lo ≤ x) (h1 : x ≤ nI hi) : x = nI (tN x) ∧ lo ≤ tN x ∧ tN x ≤ hi := by
  by_cases hl : lo < 2 ^ 31
  · have h2 : (0 : Int32) ≤ x := Int32.le_trans (nI_ge0 hl) h0
    have h3 : x < nI (hi + 1) := Int32.lt_of_le_of_lt h1 (nI_lt (by omega) (by omega))
    obtain ⟨e, q⟩ := tN_in (n := hi + 1) (by omega) h2 h3
    rw [e] at h0
    exact ⟨e, (nI_leI hl (by omega)).mp h0, by omega⟩
  · exact absurd hl (by omega)
theorem hr_at {x : Int32} (h : ¬ F_X11_isHour x = 0) : x = nI (tN x) ∧ 1 ≤ tN x ∧ tN x ≤ 24 := by
  unfold F_X11_isHour at h
  by_cases h1 : x < 1
  · rw [if_pos h1] at h; exact absurd rfl h
  · rw [if_neg h1] at h
    by_cases h2 : 24 < x
    · rw [if_pos h2] at h; exact absurd rfl h
    · exact bn_at (lo := 1) (hi := 24) (by omega) (Int32.not_lt.mp h1) (Int32.not_lt.mp h2)
theorem hf_at {x : Int32} (h : ¬ F_X11_isHourOrFirst x = 0) : x = nI (tN x) ∧ 0 ≤ tN x ∧ tN x ≤ 24 := by
  unfold F_X11_isHourOrFirst at h
  by_cases h1 : x < 0
  · rw [if_pos h1] at h; exact absurd rfl h
  · rw [if_neg h1] at h
    by_cases h2 : 24 < x
    · rw [if_pos h2] at h; exact absurd rfl h
    · exact bn_at (lo := 0) (hi := 24) (by omega) (Int32.not_lt.mp h1) (Int32.not_lt.mp h2)
theorem hn_at {x : Int32} (h : ¬ F_X11_isNews x = 0) : x = nI (tN x) ∧ tN x < 4 := by
  unfold F_X11_isNews at h
  by_cases h1 : x < 0
  · rw [if_pos h1] at h; exact absurd rfl h
  · rw [if_neg h1] at h
    by_cases h2 : 4 ≤ x
    · rw [if_pos h2] at h; exact absurd rfl h
    · exact tN_in (n := 4) (by omega) (Int32.not_lt.mp h1) (Int32.not_le.mp h2)
def F_X11_down0  : Int32 := (0 : Int32)
set_option maxHeartbeats 4000000 in
set_option maxRecDepth 100000 in
theorem K_X11_down0 (l : Launch) (g : GG) (h0 : Nat) (a0 : Nat) (a1 : Nat) (a2 : Nat) (a3 : Nat) (a4 : Nat) (a5 : Nat) (a6 : Nat) (a7 : Nat) (a8 : Nat) (a9 : Nat) (a10 : Nat) (nv : Nat) (np : Nat) (cc : Int32) (fA : Nat → Option Nat) (x : Int32) (y : Int32) (z : Int32) (hbad : x < 0 ∨ nI nv ≤ x) : MetI l g yX11_down cX11_down 5 (some .boolean) 1 0 0 [.ref h0, .int x, .int y, .int z] [(h0, .inr (11, [.ref a0, .ref a1, .ref a2, .ref a3, .ref a4, .ref a5, .ref a6, .ref a7, .ref a8, .ref a9, .ref a10, .int (nI nv), .int (nI np), .int cc])), (a1, .inl (g.2.1 4, 10, .inr (.inr (.inr (.inr fA)))))] (fun r u => r = F_X11_down0 ∧ u = [(h0, .inr (11, [.ref a0, .ref a1, .ref a2, .ref a3, .ref a4, .ref a5, .ref a6, .ref a7, .ref a8, .ref a9, .ref a10, .int (nI nv), .int (nI np), .int cc])), (a1, .inl (g.2.1 4, 10, .inr (.inr (.inr (.inr fA)))))]) := by
  refine MetI.of (own := RX11) rfl (by decide) (Nat.le_of_ble_eq_true rfl) ?_
  intro p e s m below meth c A ls args Q hQ X hr hin hW hl
  have hx := X.1
  have hb := X.2.1
  have hl : lv_has ls 5 [(0, .ref h0), (1, .int x), (2, .int y), (3, .int z)] := hl
  refine lv_aload_n (pc := 0) hx hb dX11_down_0 rfl (lv_at hl 0 rfl) ?_
  refine lv_iload_n (pc := 1) hx hb dX11_down_1 rfl (lv_at hl 1 rfl) ?_
  refine c_Vq (pc := 2) (As := [.int x]) (rest := []) (wr := []) X hW 0 ciX11 rfl (C_X11_valleyAt0 l g h0 a0 a1 a2 a3 a4 a5 a6 a7 a8 a9 a10 nv np cc fA x hbad) vX11_101 [0, 1] [] rfl rfl rfl rfl rfl rfl hl.1 rfl (Nat.le_of_ble_eq_true rfl) ⟨Nat.le_of_ble_eq_true rfl, Nat.le_of_ble_eq_true rfl⟩ ⟨Nat.le_of_ble_eq_true rfl, Nat.le_of_ble_eq_true rfl⟩ dX11_down_2 (fun r1 u9 H locs hq hW => ?_)
  obtain ⟨rfl, rfl⟩ := hq
  have hW : WD g A s _ _ [(h0, .inr (11, [.ref a0, .ref a1, .ref a2, .ref a3, .ref a4, .ref a5, .ref a6, .ref a7, .ref a8, .ref a9, .ref a10, .int (nI nv), .int (nI np), .int cc])), (a1, .inl (g.2.1 4, 10, .inr (.inr (.inr (.inr fA)))))] := hW
  refine lv_astoreN (lv' := [(4, .null), (0, .ref h0), (1, .int x), (2, .int y), (3, .int z)]) (pc := 5) hx hb dX11_down_5 hl (by decide) rfl (fun ls hl => ?_)
  refine lv_aloadN (pc := 7) hx hb dX11_down_7 (lv_at hl 0 rfl) ?_
  refine lv_ifnullN (tgt := 33) (pc := 9) hx hb dX11_down_9 rfl ?_
  refine lv_iconst (v := 0) (pc := 33) hx hb dX11_down_33 (by decide) ?_
  have hF : F_X11_down0 = (0 : Int32) := show F_X11_down0 = (0 : Int32) from rfl
  exact e_z (u := [(h0, .inr (11, [.ref a0, .ref a1, .ref a2, .ref a3, .ref a4, .ref a5, .ref a6, .ref a7, .ref a8, .ref a9, .ref a10, .int (nI nv), .int (nI np), .int cc])), (a1, .inl (g.2.1 4, 10, .inr (.inr (.inr (.inr fA)))))]) X hQ hr (hW) rfl [0, 1] rfl rfl (⟨hF.symm, rfl⟩) ⟨Nat.le_of_ble_eq_true rfl, Nat.le_of_ble_eq_true rfl⟩ dX11_down_34

def F_X11_down1 (lc : Nat) (L : Nat → Int32) (K : Nat → Int32) (y : Int32) (z : Int32) : Int32 × (Nat → Int32) × (Nat → Int32) := if F_X10_hasLine (nI lc) y = 0 then (((0 : Int32), L, K)) else (if z = (-1) then (((1 : Int32), ((F_X10_setDown lc L (tN y) z).1), ((F_X10_setDown lc L (tN y) z).2))) else (if F_X11_isHour z = 0 then (((0 : Int32), L, K)) else (((1 : Int32), ((F_X10_setDown lc L (tN y) z).1), ((F_X10_setDown lc L (tN y) z).2)))))
set_option maxHeartbeats 4000000 in
set_option maxRecDepth 100000 in
theorem K_X11_down1 (l : Launch) (g : GG) (h0 : Nat) (a0 : Nat) (a1 : Nat) (a2 : Nat) (a3 : Nat) (a4 : Nat) (a5 : Nat) (a6 : Nat) (a7 : Nat) (a8 : Nat) (a9 : Nat) (a10 : Nat) (nv : Nat) (np : Nat) (cc : Int32) (fA : Nat → Option Nat) (i : Nat) (v : Nat) (v3 : Nat) (v4 : Nat) (v5 : Nat) (v6 : Nat) (v7 : Nat) (v8 : Nat) (v9 : Nat) (v10 : Nat) (v11 : Nat) (v12 : Nat) (v13 : Nat) (v15 : Nat) (pe : Int32) (lc : Nat) (de : Int32) (gl : Int32) (L : Nat → Int32) (K : Nat → Int32) (pp : Nat) (y : Int32) (z : Int32) (hi : i < nv) (hn : nv ≤ 10) (hA : fA i = some v) (hlc : lc ≤ 12) (hpp : pp ≤ 7) (hL : endsIn L lc pp) : MetI l g yX11_down cX11_down 5 (some .boolean) 5 0 0 [.ref h0, .int (nI i), .int y, .int z] [(h0, .inr (11, [.ref a0, .ref a1, .ref a2, .ref a3, .ref a4, .ref a5, .ref a6, .ref a7, .ref a8, .ref a9, .ref a10, .int (nI nv), .int (nI np), .int cc])), (a1, .inl (g.2.1 4, 10, .inr (.inr (.inr (.inr fA))))), (v, .inr (10, [.int pe, .int (nI lc), .int de, .ref v3, .ref v4, .ref v5, .ref v6, .ref v7, .ref v8, .ref v9, .ref v10, .ref v11, .ref v12, .ref v13, .int gl, .ref v15])), (v9, .inl (g.2.1 1, 72, .inl L)), (v10, .inl (g.2.1 1, 175, .inl K))] (fun r u => r = (F_X11_down1 lc L K y z).1 ∧ u = [(h0, .inr (11, [.ref a0, .ref a1, .ref a2, .ref a3, .ref a4, .ref a5, .ref a6, .ref a7, .ref a8, .ref a9, .ref a10, .int (nI nv), .int (nI np), .int cc])), (a1, .inl (g.2.1 4, 10, .inr (.inr (.inr (.inr fA))))), (v, .inr (10, [.int pe, .int (nI lc), .int de, .ref v3, .ref v4, .ref v5, .ref v6, .ref v7, .ref v8, .ref v9, .ref v10, .ref v11, .ref v12, .ref v13, .int gl, .ref v15])), (v9, .inl (g.2.1 1, 72, .inl ((F_X11_down1 lc L K y z).2.1))), (v10, .inl (g.2.1 1, 175, .inl ((F_X11_down1 lc L K y z).2.2)))]) := by
  refine MetI.of (own := RX11) rfl (by decide) (Nat.le_of_ble_eq_true rfl) ?_
  intro p e s m below meth c A ls args Q hQ X hr hin hW hl
  have hx := X.1
  have hb := X.2.1
  have hl : lv_has ls 5 [(0, .ref h0), (1, .int (nI i)), (2, .int y), (3, .int z)] := hl
  refine lv_aload_n (pc := 0) hx hb dX11_down_0 rfl (lv_at hl 0 rfl) ?_
  refine lv_iload_n (pc := 1) hx hb dX11_down_1 rfl (lv_at hl 1 rfl) ?_
  refine c_Vq (pc := 2) (As := [.int (nI i)]) (rest := []) (wr := [(v, .inr (10, [.int pe, .int (nI lc), .int de, .ref v3, .ref v4, .ref v5, .ref v6, .ref v7, .ref v8, .ref v9, .ref v10, .ref v11, .ref v12, .ref v13, .int gl, .ref v15])), (v9, .inl (g.2.1 1, 72, .inl L)), (v10, .inl (g.2.1 1, 175, .inl K))]) X hW 0 ciX11 rfl (C_X11_valleyAt1 l g h0 a0 a1 a2 a3 a4 a5 a6 a7 a8 a9 a10 nv np cc fA i v (by omega) (by omega) hA) vX11_101 [0, 1] [2, 3, 4] rfl rfl rfl rfl rfl rfl hl.1 rfl (Nat.le_of_ble_eq_true rfl) ⟨Nat.le_of_ble_eq_true rfl, Nat.le_of_ble_eq_true rfl⟩ ⟨Nat.le_of_ble_eq_true rfl, Nat.le_of_ble_eq_true rfl⟩ dX11_down_2 (fun r1 u9 H locs hq hW => ?_)
  obtain ⟨rfl, rfl⟩ := hq
  have hW : WD g A s _ _ [(v, .inr (10, [.int pe, .int (nI lc), .int de, .ref v3, .ref v4, .ref v5, .ref v6, .ref v7, .ref v8, .ref v9, .ref v10, .ref v11, .ref v12, .ref v13, .int gl, .ref v15])), (v9, .inl (g.2.1 1, 72, .inl L)), (v10, .inl (g.2.1 1, 175, .inl K)), (h0, .inr (11, [.ref a0, .ref a1, .ref a2, .ref a3, .ref a4, .ref a5, .ref a6, .ref a7, .ref a8, .ref a9, .ref a10, .int (nI nv), .int (nI np), .int cc])), (a1, .inl (g.2.1 4, 10, .inr (.inr (.inr (.inr fA)))))] := hW
  refine lv_astore (lv' := [(4, .ref v), (0, .ref h0), (1, .int (nI i)), (2, .int y), (3, .int z)]) (pc := 5) hx hb dX11_down_5 hl (by decide) rfl (fun ls hl => ?_)
  refine lv_aload (pc := 7) hx hb dX11_down_7 (lv_at hl 0 rfl) ?_
  refine lv_ifnull (pc := 9) hx hb dX11_down_9 ?_
  refine lv_aload (pc := 12) hx hb dX11_down_12 (lv_at hl 0 rfl) ?_
  refine lv_iload_n (pc := 14) hx hb dX11_down_14 rfl (lv_at hl 3 rfl) ?_
  refine c_Vi (pc := 15) (As := [.int y]) (rest := []) (wr := [(v9, .inl (g.2.1 1, 72, .inl L)), (v10, .inl (g.2.1 1, 175, .inl K)), (h0, .inr (11, [.ref a0, .ref a1, .ref a2, .ref a3, .ref a4, .ref a5, .ref a6, .ref a7, .ref a8, .ref a9, .ref a10, .int (nI nv), .int (nI np), .int cc])), (a1, .inl (g.2.1 4, 10, .inr (.inr (.inr (.inr fA)))))]) X hW 0 ciX10 rfl (K_X10_hasLine l g v v3 v4 v5 v6 v7 v8 v9 v10 v11 v12 v13 v15 pe (nI lc) de gl y) vX11_124 [0] [1, 2, 3, 4] rfl rfl rfl rfl rfl rfl hl.1 rfl (Nat.le_of_ble_eq_true rfl) ⟨Nat.le_of_ble_eq_true rfl, Nat.le_of_ble_eq_true rfl⟩ ⟨Nat.le_of_ble_eq_true rfl, Nat.le_of_ble_eq_true rfl⟩ dX11_down_15 (fun r2 u9 H locs hq hW => ?_)
  obtain ⟨rfl, rfl⟩ := hq
  have hW : WD g A s _ _ [(v9, .inl (g.2.1 1, 72, .inl L)), (v10, .inl (g.2.1 1, 175, .inl K)), (h0, .inr (11, [.ref a0, .ref a1, .ref a2, .ref a3, .ref a4, .ref a5, .ref a6, .ref a7, .ref a8, .ref a9, .ref a10, .int (nI nv), .int (nI np), .int cc])), (a1, .inl (g.2.1 4, 10, .inr (.inr (.inr (.inr fA))))), (v, .inr (10, [.int pe, .int (nI lc), .int de, .ref v3, .ref v4, .ref v5, .ref v6, .ref v7, .ref v8, .ref v9, .ref v10, .ref v11, .ref v12, .ref v13, .int gl, .ref v15]))] := hW
  refine lv_if_eq (tgt := 33) (pc := 18) hx hb dX11_down_18 rfl (fun c3 => ?_) (fun c3 => ?_)
  · refine lv_iconst (v := 0) (pc := 33) hx hb dX11_down_33 (by decide) ?_
    have hF : F_X11_down1 lc L K y z = ((0 : Int32), L, K) := show F_X11_down1 lc L K y z = ((0 : Int32), L, K) from by rw [F_X11_down1, if_pos c3]
    exact e_z (u := [(h0, .inr (11, [.ref a0, .ref a1, .ref a2, .ref a3, .ref a4, .ref a5, .ref a6, .ref a7, .ref a8, .ref a9, .ref a10, .int (nI nv), .int (nI np), .int cc])), (a1, .inl (g.2.1 4, 10, .inr (.inr (.inr (.inr fA))))), (v, .inr (10, [.int pe, .int (nI lc), .int de, .ref v3, .ref v4, .ref v5, .ref v6, .ref v7, .ref v8, .ref v9, .ref v10, .ref v11, .ref v12, .ref v13, .int gl, .ref v15])), (v9, .inl (g.2.1 1, 72, .inl L)), (v10, .inl (g.2.1 1, 175, .inl K))]) X hQ hr (hW) rfl [2, 3, 4, 0, 1] rfl rfl (⟨(congrArg Prod.fst hF).symm, by rw [hF]⟩) ⟨Nat.le_of_ble_eq_true rfl, Nat.le_of_ble_eq_true rfl⟩ dX11_down_34
  · have hb18 := c3
    refine lv_iload_n (pc := 21) hx hb dX11_down_21 rfl (lv_at hl 4 rfl) ?_
    refine lv_iconst (v := (-1)) (pc := 22) hx hb dX11_down_22 (by decide) ?_
    refine lv_icmp_eq (tgt := 35) (pc := 23) hx hb dX11_down_23 rfl (fun c6 => ?_) (fun c6 => ?_)
    · have hln := hl_at (x := y) (n := lc) (by omega) hb18
      have hln2 := hln.2
      rw [hln.1] at hl
      refine lv_aload (pc := 35) hx hb dX11_down_35 (lv_at hl 0 rfl) ?_
      refine lv_iload_n (pc := 37) hx hb dX11_down_37 rfl (lv_at hl 3 rfl) ?_
      refine lv_iload_n (pc := 38) hx hb dX11_down_38 rfl (lv_at hl 4 rfl) ?_
      refine c_Vv (pc := 39) (As := [.int (nI (tN y)), .int z]) (rest := []) (wr := [(h0, .inr (11, [.ref a0, .ref a1, .ref a2, .ref a3, .ref a4, .ref a5, .ref a6, .ref a7, .ref a8, .ref a9, .ref a10, .int (nI nv), .int (nI np), .int cc])), (a1, .inl (g.2.1 4, 10, .inr (.inr (.inr (.inr fA)))))]) X hW 4 ciX10 rfl (K_X10_setDown l g v v3 v4 v5 v6 v7 v8 v9 v10 v11 v12 v13 v15 pe lc de gl L K pp (tN y) z (by omega) (by omega) (by omega) hL) vX11_137 [4, 0, 1] [2, 3] rfl rfl rfl rfl rfl rfl hl.1 rfl (Nat.le_of_ble_eq_true rfl) ⟨Nat.le_of_ble_eq_true rfl, Nat.le_of_ble_eq_true rfl⟩ ⟨Nat.le_of_ble_eq_true rfl, Nat.le_of_ble_eq_true rfl⟩ dX11_down_39 (fun u9 H locs hq hW => ?_)
      obtain rfl := hq
      have hW : WD g A s _ _ [(h0, .inr (11, [.ref a0, .ref a1, .ref a2, .ref a3, .ref a4, .ref a5, .ref a6, .ref a7, .ref a8, .ref a9, .ref a10, .int (nI nv), .int (nI np), .int cc])), (a1, .inl (g.2.1 4, 10, .inr (.inr (.inr (.inr fA))))), (v, .inr (10, [.int pe, .int (nI lc), .int de, .ref v3, .ref v4, .ref v5, .ref v6, .ref v7, .ref v8, .ref v9, .ref v10, .ref v11, .ref v12, .ref v13, .int gl, .ref v15])), (v9, .inl (g.2.1 1, 72, .inl ((F_X10_setDown lc L (tN y) z).1))), (v10, .inl (g.2.1 1, 175, .inl ((F_X10_setDown lc L (tN y) z).2)))] := hW
      refine lv_iconst (v := 1) (pc := 42) hx hb dX11_down_42 (by decide) ?_
      have hF : F_X11_down1 lc L K y z = ((1 : Int32), ((F_X10_setDown lc L (tN y) z).1), ((F_X10_setDown lc L (tN y) z).2)) := show F_X11_down1 lc L K y z = ((1 : Int32), ((F_X10_setDown lc L (tN y) z).1), ((F_X10_setDown lc L (tN y) z).2)) from by rw [F_X11_down1, if_neg c3, if_pos c6]
      exact e_z (u := [(h0, .inr (11, [.ref a0, .ref a1, .ref a2, .ref a3, .ref a4, .ref a5, .ref a6, .ref a7, .ref a8, .ref a9, .ref a10, .int (nI nv), .int (nI np), .int cc])), (a1, .inl (g.2.1 4, 10, .inr (.inr (.inr (.inr fA))))), (v, .inr (10, [.int pe, .int (nI lc), .int de, .ref v3, .ref v4, .ref v5, .ref v6, .ref v7, .ref v8, .ref v9, .ref v10, .ref v11, .ref v12, .ref v13, .int gl, .ref v15])), (v9, .inl (g.2.1 1, 72, .inl ((F_X10_setDown lc L (tN y) z).1))), (v10, .inl (g.2.1 1, 175, .inl ((F_X10_setDown lc L (tN y) z).2)))]) X hQ hr (hW) rfl [0, 1, 2, 3, 4] rfl rfl (⟨(congrArg Prod.fst hF).symm, by rw [hF]⟩) ⟨Nat.le_of_ble_eq_true rfl, Nat.le_of_ble_eq_true rfl⟩ dX11_down_43
    · refine lv_iload_n (pc := 26) hx hb dX11_down_26 rfl (lv_at hl 4 rfl) ?_
      refine c_Si (pc := 27) (As := [.int z]) (rest := []) (wr := [(v9, .inl (g.2.1 1, 72, .inl L)), (v10, .inl (g.2.1 1, 175, .inl K)), (h0, .inr (11, [.ref a0, .ref a1, .ref a2, .ref a3, .ref a4, .ref a5, .ref a6, .ref a7, .ref a8, .ref a9, .ref a10, .int (nI nv), .int (nI np), .int cc])), (a1, .inl (g.2.1 4, 10, .inr (.inr (.inr (.inr fA))))), (v, .inr (10, [.int pe, .int (nI lc), .int de, .ref v3, .ref v4, .ref v5, .ref v6, .ref v7, .ref v8, .ref v9, .ref v10, .ref v11, .ref v12, .ref v13, .int gl, .ref v15]))]) X hW (K_X11_isHour l g z) vX11_134 [] [0, 1, 2, 3, 4] rfl rfl rfl rfl rfl rfl hl.1 rfl (Nat.le_of_ble_eq_true rfl) ⟨Nat.le_of_ble_eq_true rfl, Nat.le_of_ble_eq_true rfl⟩ ⟨Nat.le_of_ble_eq_true rfl, Nat.le_of_ble_eq_true rfl⟩ dX11_down_27 (fun r9 u9 H locs hq hW => ?_)
      obtain ⟨rfl, rfl⟩ := hq
      have hW : WD g A s _ _ [(v9, .inl (g.2.1 1, 72, .inl L)), (v10, .inl (g.2.1 1, 175, .inl K)), (h0, .inr (11, [.ref a0, .ref a1, .ref a2, .ref a3, .ref a4, .ref a5, .ref a6, .ref a7, .ref a8, .ref a9, .ref a10, .int (nI nv), .int (nI np), .int cc])), (a1, .inl (g.2.1 4, 10, .inr (.inr (.inr (.inr fA))))), (v, .inr (10, [.int pe, .int (nI lc), .int de, .ref v3, .ref v4, .ref v5, .ref v6, .ref v7, .ref v8, .ref v9, .ref v10, .ref v11, .ref v12, .ref v13, .int gl, .ref v15]))] := hW
      refine lv_if_ne (tgt := 35) (pc := 30) hx hb dX11_down_30 rfl (fun c10 => ?_) (fun c10 => ?_)
      · have hln := hl_at (x := y) (n := lc) (by omega) hb18
        have hln2 := hln.2
        rw [hln.1] at hl
        refine lv_aload (pc := 35) hx hb dX11_down_35 (lv_at hl 0 rfl) ?_
        refine lv_iload_n (pc := 37) hx hb dX11_down_37 rfl (lv_at hl 3 rfl) ?_
        refine lv_iload_n (pc := 38) hx hb dX11_down_38 rfl (lv_at hl 4 rfl) ?_
        refine c_Vv (pc := 39) (As := [.int (nI (tN y)), .int z]) (rest := []) (wr := [(h0, .inr (11, [.ref a0, .ref a1, .ref a2, .ref a3, .ref a4, .ref a5, .ref a6, .ref a7, .ref a8, .ref a9, .ref a10, .int (nI nv), .int (nI np), .int cc])), (a1, .inl (g.2.1 4, 10, .inr (.inr (.inr (.inr fA)))))]) X hW 4 ciX10 rfl (K_X10_setDown l g v v3 v4 v5 v6 v7 v8 v9 v10 v11 v12 v13 v15 pe lc de gl L K pp (tN y) z (by omega) (by omega) (by omega) hL) vX11_137 [4, 0, 1] [2, 3] rfl rfl rfl rfl rfl rfl hl.1 rfl (Nat.le_of_ble_eq_true rfl) ⟨Nat.le_of_ble_eq_true rfl, Nat.le_of_ble_eq_true rfl⟩ ⟨Nat.le_of_ble_eq_true rfl, Nat.le_of_ble_eq_true rfl⟩ dX11_down_39 (fun u9 H locs hq hW => ?_)
        obtain rfl := hq
        have hW : WD g A s _ _ [(h0, .inr (11, [.ref a0, .ref a1, .ref a2, .ref a3, .ref a4, .ref a5, .ref a6, .ref a7, .ref a8, .ref a9, .ref a10, .int (nI nv), .int (nI np), .int cc])), (a1, .inl (g.2.1 4, 10, .inr (.inr (.inr (.inr fA))))), (v, .inr (10, [.int pe, .int (nI lc), .int de, .ref v3, .ref v4, .ref v5, .ref v6, .ref v7, .ref v8, .ref v9, .ref v10, .ref v11, .ref v12, .ref v13, .int gl, .ref v15])), (v9, .inl (g.2.1 1, 72, .inl ((F_X10_setDown lc L (tN y) z).1))), (v10, .inl (g.2.1 1, 175, .inl ((F_X10_setDown lc L (tN y) z).2)))] := hW
        refine lv_iconst (v := 1) (pc := 42) hx hb dX11_down_42 (by decide) ?_
        have hF : F_X11_down1 lc L K y z = ((1 : Int32), ((F_X10_setDown lc L (tN y) z).1), ((F_X10_setDown lc L (tN y) z).2)) := show F_X11_down1 lc L K y z = ((1 : Int32), ((F_X10_setDown lc L (tN y) z).1), ((F_X10_setDown lc L (tN y) z).2)) from by rw [F_X11_down1, if_neg c3, if_neg c6, if_neg c10]
        exact e_z (u := [(h0, .inr (11, [.ref a0, .ref a1, .ref a2, .ref a3, .ref a4, .ref a5, .ref a6, .ref a7, .ref a8, .ref a9, .ref a10, .int (nI nv), .int (nI np), .int cc])), (a1, .inl (g.2.1 4, 10, .inr (.inr (.inr (.inr fA))))), (v, .inr (10, [.int pe, .int (nI lc), .int de, .ref v3, .ref v4, .ref v5, .ref v6, .ref v7, .ref v8, .ref v9, .ref v10, .ref v11, .ref v12, .ref v13, .int gl, .ref v15])), (v9, .inl (g.2.1 1, 72, .inl ((F_X10_setDown lc L (tN y) z).1))), (v10, .inl (g.2.1 1, 175, .inl ((F_X10_setDown lc L (tN y) z).2)))]) X hQ hr (hW) rfl [0, 1, 2, 3, 4] rfl rfl (⟨(congrArg Prod.fst hF).symm, by rw [hF]⟩) ⟨Nat.le_of_ble_eq_true rfl, Nat.le_of_ble_eq_true rfl⟩ dX11_down_43
      · refine lv_iconst (v := 0) (pc := 33) hx hb dX11_down_33 (by decide) ?_
        have hF : F_X11_down1 lc L K y z = ((0 : Int32), L, K) := show F_X11_down1 lc L K y z = ((0 : Int32), L, K) from by rw [F_X11_down1, if_neg c3, if_neg c6, if_pos c10]
        exact e_z (u := [(h0, .inr (11, [.ref a0, .ref a1, .ref a2, .ref a3, .ref a4, .ref a5, .ref a6, .ref a7, .ref a8, .ref a9, .ref a10, .int (nI nv), .int (nI np), .int cc])), (a1, .inl (g.2.1 4, 10, .inr (.inr (.inr (.inr fA))))), (v, .inr (10, [.int pe, .int (nI lc), .int de, .ref v3, .ref v4, .ref v5, .ref v6, .ref v7, .ref v8, .ref v9, .ref v10, .ref v11, .ref v12, .ref v13, .int gl, .ref v15])), (v9, .inl (g.2.1 1, 72, .inl L)), (v10, .inl (g.2.1 1, 175, .inl K))]) X hQ hr (hW) rfl [2, 3, 4, 0, 1] rfl rfl (⟨(congrArg Prod.fst hF).symm, by rw [hF]⟩) ⟨Nat.le_of_ble_eq_true rfl, Nat.le_of_ble_eq_true rfl⟩ dX11_down_34

def F_X11_card0  : Int32 := (-1 : Int32)
set_option maxHeartbeats 4000000 in
set_option maxRecDepth 100000 in
theorem K_X11_card0 (l : Launch) (g : GG) (h0 : Nat) (a0 : Nat) (a1 : Nat) (a2 : Nat) (a3 : Nat) (a4 : Nat) (a5 : Nat) (a6 : Nat) (a7 : Nat) (a8 : Nat) (a9 : Nat) (a10 : Nat) (nv : Nat) (np : Nat) (cc : Int32) (fA : Nat → Option Nat) (x : Int32) (y : Int32) (z : Int32) (hbad : x < 0 ∨ nI nv ≤ x) : MetI l g yX11_card cX11_card 5 (some .int) 1 0 0 [.ref h0, .int x, .int y, .int z] [(h0, .inr (11, [.ref a0, .ref a1, .ref a2, .ref a3, .ref a4, .ref a5, .ref a6, .ref a7, .ref a8, .ref a9, .ref a10, .int (nI nv), .int (nI np), .int cc])), (a1, .inl (g.2.1 4, 10, .inr (.inr (.inr (.inr fA)))))] (fun r u => r = F_X11_card0 ∧ u = [(h0, .inr (11, [.ref a0, .ref a1, .ref a2, .ref a3, .ref a4, .ref a5, .ref a6, .ref a7, .ref a8, .ref a9, .ref a10, .int (nI nv), .int (nI np), .int cc])), (a1, .inl (g.2.1 4, 10, .inr (.inr (.inr (.inr fA)))))]) := by
  refine MetI.of (own := RX11) rfl (by decide) (Nat.le_of_ble_eq_true rfl) ?_
  intro p e s m below meth c A ls args Q hQ X hr hin hW hl
  have hx := X.1
  have hb := X.2.1
  have hl : lv_has ls 5 [(0, .ref h0), (1, .int x), (2, .int y), (3, .int z)] := hl
  refine lv_aload_n (pc := 0) hx hb dX11_card_0 rfl (lv_at hl 0 rfl) ?_
  refine lv_iload_n (pc := 1) hx hb dX11_card_1 rfl (lv_at hl 1 rfl) ?_
  refine c_Vq (pc := 2) (As := [.int x]) (rest := []) (wr := []) X hW 0 ciX11 rfl (C_X11_valleyAt0 l g h0 a0 a1 a2 a3 a4 a5 a6 a7 a8 a9 a10 nv np cc fA x hbad) vX11_101 [0, 1] [] rfl rfl rfl rfl rfl rfl hl.1 rfl (Nat.le_of_ble_eq_true rfl) ⟨Nat.le_of_ble_eq_true rfl, Nat.le_of_ble_eq_true rfl⟩ ⟨Nat.le_of_ble_eq_true rfl, Nat.le_of_ble_eq_true rfl⟩ dX11_card_2 (fun r1 u9 H locs hq hW => ?_)
  obtain ⟨rfl, rfl⟩ := hq
  have hW : WD g A s _ _ [(h0, .inr (11, [.ref a0, .ref a1, .ref a2, .ref a3, .ref a4, .ref a5, .ref a6, .ref a7, .ref a8, .ref a9, .ref a10, .int (nI nv), .int (nI np), .int cc])), (a1, .inl (g.2.1 4, 10, .inr (.inr (.inr (.inr fA)))))] := hW
  refine lv_astoreN (lv' := [(4, .null), (0, .ref h0), (1, .int x), (2, .int y), (3, .int z)]) (pc := 5) hx hb dX11_card_5 hl (by decide) rfl (fun ls hl => ?_)
  refine lv_aloadN (pc := 7) hx hb dX11_card_7 (lv_at hl 0 rfl) ?_
  refine lv_ifnullN (tgt := 22) (pc := 9) hx hb dX11_card_9 rfl ?_
  refine lv_iconst (v := (-1)) (pc := 22) hx hb dX11_card_22 (by decide) ?_
  have hF : F_X11_card0 = (-1 : Int32) := show F_X11_card0 = (-1 : Int32) from rfl
  exact e_i (u := [(h0, .inr (11, [.ref a0, .ref a1, .ref a2, .ref a3, .ref a4, .ref a5, .ref a6, .ref a7, .ref a8, .ref a9, .ref a10, .int (nI nv), .int (nI np), .int cc])), (a1, .inl (g.2.1 4, 10, .inr (.inr (.inr (.inr fA)))))]) X hQ hr (hW) [0, 1] rfl rfl (⟨hF.symm, rfl⟩) ⟨Nat.le_of_ble_eq_true rfl, Nat.le_of_ble_eq_true rfl⟩ dX11_card_23

def F_X11_card1 (pe : Nat) (cd : Nat → Int32) (cl : Nat → Int32) (y : Int32) (z : Int32) : Int32 × (Nat → Int32) × (Nat → Int32) := if F_X10_hasCouple (nI pe) y z = 0 then (((-1 : Int32), cd, cl)) else (((F_X10_appendToCard cd cl (tN y) z).1, ((F_X10_appendToCard cd cl (tN y) z).2.1), ((F_X10_appendToCard cd cl (tN y) z).2.2)))
set_option maxHeartbeats 4000000 in
set_option maxRecDepth 100000 in
theorem K_X11_card1 (l : Launch) (g : GG) (h0 : Nat) (a0 : Nat) (a1 : Nat) (a2 : Nat) (a3 : Nat) (a4 : Nat) (a5 : Nat) (a6 : Nat) (a7 : Nat) (a8 : Nat) (a9 : Nat) (a10 : Nat) (nv : Nat) (np : Nat) (cc : Int32) (fA : Nat → Option Nat) (i : Nat) (v : Nat) (v3 : Nat) (v4 : Nat) (v5 : Nat) (v6 : Nat) (v7 : Nat) (v8 : Nat) (v9 : Nat) (v10 : Nat) (v11 : Nat) (v12 : Nat) (v13 : Nat) (v15 : Nat) (pe : Nat) (lc : Int32) (de : Int32) (gl : Int32) (cd : Nat → Int32) (cl : Nat → Int32) (y : Int32) (z : Int32) (hi : i < nv) (hn : nv ≤ 10) (hA : fA i = some v) (hpe : pe ≤ 7) (hcl : ∀ j : Nat, j < 7 → cl j = nI (tN (cl j)) ∧ tN (cl j) ≤ 6) : MetI l g yX11_card cX11_card 5 (some .int) 2 0 0 [.ref h0, .int (nI i), .int y, .int z] [(h0, .inr (11, [.ref a0, .ref a1, .ref a2, .ref a3, .ref a4, .ref a5, .ref a6, .ref a7, .ref a8, .ref a9, .ref a10, .int (nI nv), .int (nI np), .int cc])), (a1, .inl (g.2.1 4, 10, .inr (.inr (.inr (.inr fA))))), (v, .inr (10, [.int (nI pe), .int lc, .int de, .ref v3, .ref v4, .ref v5, .ref v6, .ref v7, .ref v8, .ref v9, .ref v10, .ref v11, .ref v12, .ref v13, .int gl, .ref v15])), (v11, .inl (g.2.1 1, 42, .inl cd)), (v12, .inl (g.2.1 1, 7, .inl cl))] (fun r u => r = (F_X11_card1 pe cd cl y z).1 ∧ u = [(h0, .inr (11, [.ref a0, .ref a1, .ref a2, .ref a3, .ref a4, .ref a5, .ref a6, .ref a7, .ref a8, .ref a9, .ref a10, .int (nI nv), .int (nI np), .int cc])), (a1, .inl (g.2.1 4, 10, .inr (.inr (.inr (.inr fA))))), (v, .inr (10, [.int (nI pe), .int lc, .int de, .ref v3, .ref v4, .ref v5, .ref v6, .ref v7, .ref v8, .ref v9, .ref v10, .ref v11, .ref v12, .ref v13, .int gl, .ref v15])), (v11, .inl (g.2.1 1, 42, .inl ((F_X11_card1 pe cd cl y z).2.1))), (v12, .inl (g.2.1 1, 7, .inl ((F_X11_card1 pe cd cl y z).2.2)))]) := by
  refine MetI.of (own := RX11) rfl (by decide) (Nat.le_of_ble_eq_true rfl) ?_
  intro p e s m below meth c A ls args Q hQ X hr hin hW hl
  have hx := X.1
  have hb := X.2.1
  have hl : lv_has ls 5 [(0, .ref h0), (1, .int (nI i)), (2, .int y), (3, .int z)] := hl
  refine lv_aload_n (pc := 0) hx hb dX11_card_0 rfl (lv_at hl 0 rfl) ?_
  refine lv_iload_n (pc := 1) hx hb dX11_card_1 rfl (lv_at hl 1 rfl) ?_
  refine c_Vq (pc := 2) (As := [.int (nI i)]) (rest := []) (wr := [(v, .inr (10, [.int (nI pe), .int lc, .int de, .ref v3, .ref v4, .ref v5, .ref v6, .ref v7, .ref v8, .ref v9, .ref v10, .ref v11, .ref v12, .ref v13, .int gl, .ref v15])), (v11, .inl (g.2.1 1, 42, .inl cd)), (v12, .inl (g.2.1 1, 7, .inl cl))]) X hW 0 ciX11 rfl (C_X11_valleyAt1 l g h0 a0 a1 a2 a3 a4 a5 a6 a7 a8 a9 a10 nv np cc fA i v (by omega) (by omega) hA) vX11_101 [0, 1] [2, 3, 4] rfl rfl rfl rfl rfl rfl hl.1 rfl (Nat.le_of_ble_eq_true rfl) ⟨Nat.le_of_ble_eq_true rfl, Nat.le_of_ble_eq_true rfl⟩ ⟨Nat.le_of_ble_eq_true rfl, Nat.le_of_ble_eq_true rfl⟩ dX11_card_2 (fun r1 u9 H locs hq hW => ?_)
  obtain ⟨rfl, rfl⟩ := hq
  have hW : WD g A s _ _ [(v, .inr (10, [.int (nI pe), .int lc, .int de, .ref v3, .ref v4, .ref v5, .ref v6, .ref v7, .ref v8, .ref v9, .ref v10, .ref v11, .ref v12, .ref v13, .int gl, .ref v15])), (v11, .inl (g.2.1 1, 42, .inl cd)), (v12, .inl (g.2.1 1, 7, .inl cl)), (h0, .inr (11, [.ref a0, .ref a1, .ref a2, .ref a3, .ref a4, .ref a5, .ref a6, .ref a7, .ref a8, .ref a9, .ref a10, .int (nI nv), .int (nI np), .int cc])), (a1, .inl (g.2.1 4, 10, .inr (.inr (.inr (.inr fA)))))] := hW
  refine lv_astore (lv' := [(4, .ref v), (0, .ref h0), (1, .int (nI i)), (2, .int y), (3, .int z)]) (pc := 5) hx hb dX11_card_5 hl (by decide) rfl (fun ls hl => ?_)
  refine lv_aload (pc := 7) hx hb dX11_card_7 (lv_at hl 0 rfl) ?_
  refine lv_ifnull (pc := 9) hx hb dX11_card_9 ?_
  refine lv_aload (pc := 12) hx hb dX11_card_12 (lv_at hl 0 rfl) ?_
  refine lv_iload_n (pc := 14) hx hb dX11_card_14 rfl (lv_at hl 3 rfl) ?_
  refine lv_iload_n (pc := 15) hx hb dX11_card_15 rfl (lv_at hl 4 rfl) ?_
  refine c_Vi (pc := 16) (As := [.int y, .int z]) (rest := []) (wr := [(v11, .inl (g.2.1 1, 42, .inl cd)), (v12, .inl (g.2.1 1, 7, .inl cl)), (h0, .inr (11, [.ref a0, .ref a1, .ref a2, .ref a3, .ref a4, .ref a5, .ref a6, .ref a7, .ref a8, .ref a9, .ref a10, .int (nI nv), .int (nI np), .int cc])), (a1, .inl (g.2.1 4, 10, .inr (.inr (.inr (.inr fA)))))]) X hW 0 ciX10 rfl (K_X10_hasCouple l g v v3 v4 v5 v6 v7 v8 v9 v10 v11 v12 v13 v15 (nI pe) lc de gl y z) vX11_141 [0] [1, 2, 3, 4] rfl rfl rfl rfl rfl rfl hl.1 rfl (Nat.le_of_ble_eq_true rfl) ⟨Nat.le_of_ble_eq_true rfl, Nat.le_of_ble_eq_true rfl⟩ ⟨Nat.le_of_ble_eq_true rfl, Nat.le_of_ble_eq_true rfl⟩ dX11_card_16 (fun r2 u9 H locs hq hW => ?_)
  obtain ⟨rfl, rfl⟩ := hq
  have hW : WD g A s _ _ [(v11, .inl (g.2.1 1, 42, .inl cd)), (v12, .inl (g.2.1 1, 7, .inl cl)), (h0, .inr (11, [.ref a0, .ref a1, .ref a2, .ref a3, .ref a4, .ref a5, .ref a6, .ref a7, .ref a8, .ref a9, .ref a10, .int (nI nv), .int (nI np), .int cc])), (a1, .inl (g.2.1 4, 10, .inr (.inr (.inr (.inr fA))))), (v, .inr (10, [.int (nI pe), .int lc, .int de, .ref v3, .ref v4, .ref v5, .ref v6, .ref v7, .ref v8, .ref v9, .ref v10, .ref v11, .ref v12, .ref v13, .int gl, .ref v15]))] := hW
  refine lv_if_ne (tgt := 24) (pc := 19) hx hb dX11_card_19 rfl (fun c3 => ?_) (fun c3 => ?_)
  · have hcp := hc_at (n := pe) (by omega) c3
    have hcp1 := hcp.1.2
    rw [hcp.1.1] at hl
    refine lv_aload (pc := 24) hx hb dX11_card_24 (lv_at hl 0 rfl) ?_
    refine lv_iload_n (pc := 26) hx hb dX11_card_26 rfl (lv_at hl 3 rfl) ?_
    refine lv_iload_n (pc := 27) hx hb dX11_card_27 rfl (lv_at hl 4 rfl) ?_
    refine c_Vi (pc := 28) (As := [.int (nI (tN y)), .int z]) (rest := []) (wr := [(h0, .inr (11, [.ref a0, .ref a1, .ref a2, .ref a3, .ref a4, .ref a5, .ref a6, .ref a7, .ref a8, .ref a9, .ref a10, .int (nI nv), .int (nI np), .int cc])), (a1, .inl (g.2.1 4, 10, .inr (.inr (.inr (.inr fA)))))]) X hW 4 ciX10 rfl (K_X10_appendToCard l g v v3 v4 v5 v6 v7 v8 v9 v10 v11 v12 v13 v15 (nI pe) lc de gl cd cl (tN y) z (by omega) hcl) vX11_270 [4, 0, 1] [2, 3] rfl rfl rfl rfl rfl rfl hl.1 rfl (Nat.le_of_ble_eq_true rfl) ⟨Nat.le_of_ble_eq_true rfl, Nat.le_of_ble_eq_true rfl⟩ ⟨Nat.le_of_ble_eq_true rfl, Nat.le_of_ble_eq_true rfl⟩ dX11_card_28 (fun r5 u9 H locs hq hW => ?_)
    obtain ⟨rfl, rfl⟩ := hq
    have hW : WD g A s _ _ [(h0, .inr (11, [.ref a0, .ref a1, .ref a2, .ref a3, .ref a4, .ref a5, .ref a6, .ref a7, .ref a8, .ref a9, .ref a10, .int (nI nv), .int (nI np), .int cc])), (a1, .inl (g.2.1 4, 10, .inr (.inr (.inr (.inr fA))))), (v, .inr (10, [.int (nI pe), .int lc, .int de, .ref v3, .ref v4, .ref v5, .ref v6, .ref v7, .ref v8, .ref v9, .ref v10, .ref v11, .ref v12, .ref v13, .int gl, .ref v15])), (v11, .inl (g.2.1 1, 42, .inl ((F_X10_appendToCard cd cl (tN y) z).2.1))), (v12, .inl (g.2.1 1, 7, .inl ((F_X10_appendToCard cd cl (tN y) z).2.2)))] := hW
    have hF : F_X11_card1 pe cd cl y z = ((F_X10_appendToCard cd cl (tN y) z).1, ((F_X10_appendToCard cd cl (tN y) z).2.1), ((F_X10_appendToCard cd cl (tN y) z).2.2)) := show F_X11_card1 pe cd cl y z = ((F_X10_appendToCard cd cl (tN y) z).1, ((F_X10_appendToCard cd cl (tN y) z).2.1), ((F_X10_appendToCard cd cl (tN y) z).2.2)) from by rw [F_X11_card1, if_neg c3]
    exact e_i (u := [(h0, .inr (11, [.ref a0, .ref a1, .ref a2, .ref a3, .ref a4, .ref a5, .ref a6, .ref a7, .ref a8, .ref a9, .ref a10, .int (nI nv), .int (nI np), .int cc])), (a1, .inl (g.2.1 4, 10, .inr (.inr (.inr (.inr fA))))), (v, .inr (10, [.int (nI pe), .int lc, .int de, .ref v3, .ref v4, .ref v5, .ref v6, .ref v7, .ref v8, .ref v9, .ref v10, .ref v11, .ref v12, .ref v13, .int gl, .ref v15])), (v11, .inl (g.2.1 1, 42, .inl ((F_X10_appendToCard cd cl (tN y) z).2.1))), (v12, .inl (g.2.1 1, 7, .inl ((F_X10_appendToCard cd cl (tN y) z).2.2)))]) X hQ hr (hW) [0, 1, 2, 3, 4] rfl rfl (⟨(congrArg Prod.fst hF).symm, by rw [hF]⟩) ⟨Nat.le_of_ble_eq_true rfl, Nat.le_of_ble_eq_true rfl⟩ dX11_card_31
  · refine lv_iconst (v := (-1)) (pc := 22) hx hb dX11_card_22 (by decide) ?_
    have hF : F_X11_card1 pe cd cl y z = ((-1 : Int32), cd, cl) := show F_X11_card1 pe cd cl y z = ((-1 : Int32), cd, cl) from by rw [F_X11_card1, if_pos c3]
    exact e_i (u := [(h0, .inr (11, [.ref a0, .ref a1, .ref a2, .ref a3, .ref a4, .ref a5, .ref a6, .ref a7, .ref a8, .ref a9, .ref a10, .int (nI nv), .int (nI np), .int cc])), (a1, .inl (g.2.1 4, 10, .inr (.inr (.inr (.inr fA))))), (v, .inr (10, [.int (nI pe), .int lc, .int de, .ref v3, .ref v4, .ref v5, .ref v6, .ref v7, .ref v8, .ref v9, .ref v10, .ref v11, .ref v12, .ref v13, .int gl, .ref v15])), (v11, .inl (g.2.1 1, 42, .inl cd)), (v12, .inl (g.2.1 1, 7, .inl cl))]) X hQ hr (hW) [2, 3, 4, 0, 1] rfl rfl (⟨(congrArg Prod.fst hF).symm, by rw [hF]⟩) ⟨Nat.le_of_ble_eq_true rfl, Nat.le_of_ble_eq_true rfl⟩ dX11_card_23

def F_X11_blank0  : Int32 := (0 : Int32)
set_option maxHeartbeats 4000000 in
set_option maxRecDepth 100000 in
theorem K_X11_blank0 (l : Launch) (g : GG) (h0 : Nat) (a0 : Nat) (a1 : Nat) (a2 : Nat) (a3 : Nat) (a4 : Nat) (a5 : Nat) (a6 : Nat) (a7 : Nat) (a8 : Nat) (a9 : Nat) (a10 : Nat) (nv : Nat) (np : Nat) (cc : Int32) (fA : Nat → Option Nat) (x : Int32) (hbad : x < 0 ∨ nI nv ≤ x) : MetI l g yX11_blank cX11_blank 3 (some .boolean) 1 0 0 [.ref h0, .int x] [(h0, .inr (11, [.ref a0, .ref a1, .ref a2, .ref a3, .ref a4, .ref a5, .ref a6, .ref a7, .ref a8, .ref a9, .ref a10, .int (nI nv), .int (nI np), .int cc])), (a1, .inl (g.2.1 4, 10, .inr (.inr (.inr (.inr fA)))))] (fun r u => r = F_X11_blank0 ∧ u = [(h0, .inr (11, [.ref a0, .ref a1, .ref a2, .ref a3, .ref a4, .ref a5, .ref a6, .ref a7, .ref a8, .ref a9, .ref a10, .int (nI nv), .int (nI np), .int cc])), (a1, .inl (g.2.1 4, 10, .inr (.inr (.inr (.inr fA)))))]) := by
  refine MetI.of (own := RX11) rfl (by decide) (Nat.le_of_ble_eq_true rfl) ?_
  intro p e s m below meth c A ls args Q hQ X hr hin hW hl
  have hx := X.1
  have hb := X.2.1
  have hl : lv_has ls 3 [(0, .ref h0), (1, .int x)] := hl
  refine lv_aload_n (pc := 0) hx hb dX11_blank_0 rfl (lv_at hl 0 rfl) ?_
  refine lv_iload_n (pc := 1) hx hb dX11_blank_1 rfl (lv_at hl 1 rfl) ?_
  refine c_Vq (pc := 2) (As := [.int x]) (rest := []) (wr := []) X hW 0 ciX11 rfl (C_X11_valleyAt0 l g h0 a0 a1 a2 a3 a4 a5 a6 a7 a8 a9 a10 nv np cc fA x hbad) vX11_101 [0, 1] [] rfl rfl rfl rfl rfl rfl hl.1 rfl (Nat.le_of_ble_eq_true rfl) ⟨Nat.le_of_ble_eq_true rfl, Nat.le_of_ble_eq_true rfl⟩ ⟨Nat.le_of_ble_eq_true rfl, Nat.le_of_ble_eq_true rfl⟩ dX11_blank_2 (fun r1 u9 H locs hq hW => ?_)
  obtain ⟨rfl, rfl⟩ := hq
  have hW : WD g A s _ _ [(h0, .inr (11, [.ref a0, .ref a1, .ref a2, .ref a3, .ref a4, .ref a5, .ref a6, .ref a7, .ref a8, .ref a9, .ref a10, .int (nI nv), .int (nI np), .int cc])), (a1, .inl (g.2.1 4, 10, .inr (.inr (.inr (.inr fA)))))] := hW
  refine lv_astore_nN (lv' := [(2, .null), (0, .ref h0), (1, .int x)]) (pc := 5) hx hb dX11_blank_5 rfl hl (by decide) rfl (fun ls hl => ?_)
  refine lv_aload_nN (pc := 6) hx hb dX11_blank_6 rfl (lv_at hl 0 rfl) ?_
  refine lv_ifnonnullN (pc := 7) hx hb dX11_blank_7 ?_
  refine lv_iconst (v := 0) (pc := 10) hx hb dX11_blank_10 (by decide) ?_
  have hF : F_X11_blank0 = (0 : Int32) := show F_X11_blank0 = (0 : Int32) from rfl
  exact e_z (u := [(h0, .inr (11, [.ref a0, .ref a1, .ref a2, .ref a3, .ref a4, .ref a5, .ref a6, .ref a7, .ref a8, .ref a9, .ref a10, .int (nI nv), .int (nI np), .int cc])), (a1, .inl (g.2.1 4, 10, .inr (.inr (.inr (.inr fA)))))]) X hQ hr (hW) rfl [0, 1] rfl rfl (⟨hF.symm, rfl⟩) ⟨Nat.le_of_ble_eq_true rfl, Nat.le_of_ble_eq_true rfl⟩ dX11_blank_11

def F_X11_blank1  : Int32 × (Nat → Int32) := ((1 : Int32), (F_X10_emptyCards))
set_option maxHeartbeats 4000000 in
set_option maxRecDepth 100000 in
theorem K_X11_blank1 (l : Launch) (g : GG) (h0 : Nat) (a0 : Nat) (a1 : Nat) (a2 : Nat) (a3 : Nat) (a4 : Nat) (a5 : Nat) (a6 : Nat) (a7 : Nat) (a8 : Nat) (a9 : Nat) (a10 : Nat) (nv : Nat) (np : Nat) (cc : Int32) (fA : Nat → Option Nat) (i : Nat) (v : Nat) (v3 : Nat) (v4 : Nat) (v5 : Nat) (v6 : Nat) (v7 : Nat) (v8 : Nat) (v9 : Nat) (v10 : Nat) (v11 : Nat) (v12 : Nat) (v13 : Nat) (v15 : Nat) (pe : Int32) (lc : Int32) (de : Int32) (gl : Int32) (cl : Nat → Int32) (hi : i < nv) (hn : nv ≤ 10) (hA : fA i = some v) : MetI l g yX11_blank cX11_blank 3 (some .boolean) 2 0 0 [.ref h0, .int (nI i)] [(h0, .inr (11, [.ref a0, .ref a1, .ref a2, .ref a3, .ref a4, .ref a5, .ref a6, .ref a7, .ref a8, .ref a9, .ref a10, .int (nI nv), .int (nI np), .int cc])), (a1, .inl (g.2.1 4, 10, .inr (.inr (.inr (.inr fA))))), (v, .inr (10, [.int pe, .int lc, .int de, .ref v3, .ref v4, .ref v5, .ref v6, .ref v7, .ref v8, .ref v9, .ref v10, .ref v11, .ref v12, .ref v13, .int gl, .ref v15])), (v12, .inl (g.2.1 1, 7, .inl cl))] (fun r u => r = (F_X11_blank1).1 ∧ u = [(h0, .inr (11, [.ref a0, .ref a1, .ref a2, .ref a3, .ref a4, .ref a5, .ref a6, .ref a7, .ref a8, .ref a9, .ref a10, .int (nI nv), .int (nI np), .int cc])), (a1, .inl (g.2.1 4, 10, .inr (.inr (.inr (.inr fA))))), (v, .inr (10, [.int pe, .int lc, .int de, .ref v3, .ref v4, .ref v5, .ref v6, .ref v7, .ref v8, .ref v9, .ref v10, .ref v11, .ref v12, .ref v13, .int gl, .ref v15])), (v12, .inl (g.2.1 1, 7, .inl ((F_X11_blank1).2)))]) := by
  refine MetI.of (own := RX11) rfl (by decide) (Nat.le_of_ble_eq_true rfl) ?_
  intro p e s m below meth c A ls args Q hQ X hr hin hW hl
  have hx := X.1
  have hb := X.2.1
  have hl : lv_has ls 3 [(0, .ref h0), (1, .int (nI i))] := hl
  refine lv_aload_n (pc := 0) hx hb dX11_blank_0 rfl (lv_at hl 0 rfl) ?_
  refine lv_iload_n (pc := 1) hx hb dX11_blank_1 rfl (lv_at hl 1 rfl) ?_
  refine c_Vq (pc := 2) (As := [.int (nI i)]) (rest := []) (wr := [(v, .inr (10, [.int pe, .int lc, .int de, .ref v3, .ref v4, .ref v5, .ref v6, .ref v7, .ref v8, .ref v9, .ref v10, .ref v11, .ref v12, .ref v13, .int gl, .ref v15])), (v12, .inl (g.2.1 1, 7, .inl cl))]) X hW 0 ciX11 rfl (C_X11_valleyAt1 l g h0 a0 a1 a2 a3 a4 a5 a6 a7 a8 a9 a10 nv np cc fA i v (by omega) (by omega) hA) vX11_101 [0, 1] [2, 3] rfl rfl rfl rfl rfl rfl hl.1 rfl (Nat.le_of_ble_eq_true rfl) ⟨Nat.le_of_ble_eq_true rfl, Nat.le_of_ble_eq_true rfl⟩ ⟨Nat.le_of_ble_eq_true rfl, Nat.le_of_ble_eq_true rfl⟩ dX11_blank_2 (fun r1 u9 H locs hq hW => ?_)
  obtain ⟨rfl, rfl⟩ := hq
  have hW : WD g A s _ _ [(v, .inr (10, [.int pe, .int lc, .int de, .ref v3, .ref v4, .ref v5, .ref v6, .ref v7, .ref v8, .ref v9, .ref v10, .ref v11, .ref v12, .ref v13, .int gl, .ref v15])), (v12, .inl (g.2.1 1, 7, .inl cl)), (h0, .inr (11, [.ref a0, .ref a1, .ref a2, .ref a3, .ref a4, .ref a5, .ref a6, .ref a7, .ref a8, .ref a9, .ref a10, .int (nI nv), .int (nI np), .int cc])), (a1, .inl (g.2.1 4, 10, .inr (.inr (.inr (.inr fA)))))] := hW
  refine lv_astore_n (lv' := [(2, .ref v), (0, .ref h0), (1, .int (nI i))]) (pc := 5) hx hb dX11_blank_5 rfl hl (by decide) rfl (fun ls hl => ?_)
  refine lv_aload_n (pc := 6) hx hb dX11_blank_6 rfl (lv_at hl 0 rfl) ?_
  refine lv_ifnonnull (tgt := 12) (pc := 7) hx hb dX11_blank_7 rfl ?_
  refine lv_aload_n (pc := 12) hx hb dX11_blank_12 rfl (lv_at hl 0 rfl) ?_
  refine c_Vv (pc := 13) (As := []) (rest := []) (wr := [(h0, .inr (11, [.ref a0, .ref a1, .ref a2, .ref a3, .ref a4, .ref a5, .ref a6, .ref a7, .ref a8, .ref a9, .ref a10, .int (nI nv), .int (nI np), .int cc])), (a1, .inl (g.2.1 4, 10, .inr (.inr (.inr (.inr fA)))))]) X hW 0 ciX10 rfl (K_X10_emptyCards l g v v3 v4 v5 v6 v7 v8 v9 v10 v11 v12 v13 v15 pe lc de gl cl) vX11_273 [0, 1] [2, 3] rfl rfl rfl rfl rfl rfl hl.1 rfl (Nat.le_of_ble_eq_true rfl) ⟨Nat.le_of_ble_eq_true rfl, Nat.le_of_ble_eq_true rfl⟩ ⟨Nat.le_of_ble_eq_true rfl, Nat.le_of_ble_eq_true rfl⟩ dX11_blank_13 (fun u9 H locs hq hW => ?_)
  obtain rfl := hq
  have hW : WD g A s _ _ [(h0, .inr (11, [.ref a0, .ref a1, .ref a2, .ref a3, .ref a4, .ref a5, .ref a6, .ref a7, .ref a8, .ref a9, .ref a10, .int (nI nv), .int (nI np), .int cc])), (a1, .inl (g.2.1 4, 10, .inr (.inr (.inr (.inr fA))))), (v, .inr (10, [.int pe, .int lc, .int de, .ref v3, .ref v4, .ref v5, .ref v6, .ref v7, .ref v8, .ref v9, .ref v10, .ref v11, .ref v12, .ref v13, .int gl, .ref v15])), (v12, .inl (g.2.1 1, 7, .inl (F_X10_emptyCards)))] := hW
  refine lv_iconst (v := 1) (pc := 16) hx hb dX11_blank_16 (by decide) ?_
  have hF : F_X11_blank1 = ((1 : Int32), (F_X10_emptyCards)) := show F_X11_blank1 = ((1 : Int32), (F_X10_emptyCards)) from rfl
  exact e_z (u := [(h0, .inr (11, [.ref a0, .ref a1, .ref a2, .ref a3, .ref a4, .ref a5, .ref a6, .ref a7, .ref a8, .ref a9, .ref a10, .int (nI nv), .int (nI np), .int cc])), (a1, .inl (g.2.1 4, 10, .inr (.inr (.inr (.inr fA))))), (v, .inr (10, [.int pe, .int lc, .int de, .ref v3, .ref v4, .ref v5, .ref v6, .ref v7, .ref v8, .ref v9, .ref v10, .ref v11, .ref v12, .ref v13, .int gl, .ref v15])), (v12, .inl (g.2.1 1, 7, .inl (F_X10_emptyCards)))]) X hQ hr (hW) rfl [0, 1, 2, 3] rfl rfl (⟨(congrArg Prod.fst hF).symm, by rw [hF]⟩) ⟨Nat.le_of_ble_eq_true rfl, Nat.le_of_ble_eq_true rfl⟩ dX11_blank_17

def F_X11_tale0  : Int32 := (0 : Int32)
set_option maxHeartbeats 4000000 in
set_option maxRecDepth 100000 in
theorem K_X11_tale0 (l : Launch) (g : GG) (h0 : Nat) (a0 : Nat) (a1 : Nat) (a2 : Nat) (a3 : Nat) (a4 : Nat) (a5 : Nat) (a6 : Nat) (a7 : Nat) (a8 : Nat) (a9 : Nat) (a10 : Nat) (nv : Nat) (np : Nat) (cc : Int32) (fA : Nat → Option Nat) (x : Int32) (y : Int32) (z : Int32) (t : Int32) (hbad : x < 0 ∨ nI nv ≤ x) : MetI l g yX11_tale cX11_tale 6 (some .boolean) 1 0 0 [.ref h0, .int x, .int y, .int z, .int t] [(h0, .inr (11, [.ref a0, .ref a1, .ref a2, .ref a3, .ref a4, .ref a5, .ref a6, .ref a7, .ref a8, .ref a9, .ref a10, .int (nI nv), .int (nI np), .int cc])), (a1, .inl (g.2.1 4, 10, .inr (.inr (.inr (.inr fA)))))] (fun r u => r = F_X11_tale0 ∧ u = [(h0, .inr (11, [.ref a0, .ref a1, .ref a2, .ref a3, .ref a4, .ref a5, .ref a6, .ref a7, .ref a8, .ref a9, .ref a10, .int (nI nv), .int (nI np), .int cc])), (a1, .inl (g.2.1 4, 10, .inr (.inr (.inr (.inr fA)))))]) := by
  refine MetI.of (own := RX11) rfl (by decide) (Nat.le_of_ble_eq_true rfl) ?_
  intro p e s m below meth c A ls args Q hQ X hr hin hW hl
  have hx := X.1
  have hb := X.2.1
  have hl : lv_has ls 6 [(0, .ref h0), (1, .int x), (2, .int y), (3, .int z), (4, .int t)] := hl
  refine lv_aload_n (pc := 0) hx hb dX11_tale_0 rfl (lv_at hl 0 rfl) ?_
  refine lv_iload_n (pc := 1) hx hb dX11_tale_1 rfl (lv_at hl 1 rfl) ?_
  refine c_Vq (pc := 2) (As := [.int x]) (rest := []) (wr := []) X hW 0 ciX11 rfl (C_X11_valleyAt0 l g h0 a0 a1 a2 a3 a4 a5 a6 a7 a8 a9 a10 nv np cc fA x hbad) vX11_101 [0, 1] [] rfl rfl rfl rfl rfl rfl hl.1 rfl (Nat.le_of_ble_eq_true rfl) ⟨Nat.le_of_ble_eq_true rfl, Nat.le_of_ble_eq_true rfl⟩ ⟨Nat.le_of_ble_eq_true rfl, Nat.le_of_ble_eq_true rfl⟩ dX11_tale_2 (fun r1 u9 H locs hq hW => ?_)
  obtain ⟨rfl, rfl⟩ := hq
  have hW : WD g A s _ _ [(h0, .inr (11, [.ref a0, .ref a1, .ref a2, .ref a3, .ref a4, .ref a5, .ref a6, .ref a7, .ref a8, .ref a9, .ref a10, .int (nI nv), .int (nI np), .int cc])), (a1, .inl (g.2.1 4, 10, .inr (.inr (.inr (.inr fA)))))] := hW
  refine lv_astoreN (lv' := [(5, .null), (0, .ref h0), (1, .int x), (2, .int y), (3, .int z), (4, .int t)]) (pc := 5) hx hb dX11_tale_5 hl (by decide) rfl (fun ls hl => ?_)
  refine lv_aloadN (pc := 7) hx hb dX11_tale_7 (lv_at hl 0 rfl) ?_
  refine lv_ifnullN (tgt := 42) (pc := 9) hx hb dX11_tale_9 rfl ?_
  refine lv_iconst (v := 0) (pc := 42) hx hb dX11_tale_42 (by decide) ?_
  have hF : F_X11_tale0 = (0 : Int32) := show F_X11_tale0 = (0 : Int32) from rfl
  exact e_z (u := [(h0, .inr (11, [.ref a0, .ref a1, .ref a2, .ref a3, .ref a4, .ref a5, .ref a6, .ref a7, .ref a8, .ref a9, .ref a10, .int (nI nv), .int (nI np), .int cc])), (a1, .inl (g.2.1 4, 10, .inr (.inr (.inr (.inr fA)))))]) X hQ hr (hW) rfl [0, 1] rfl rfl (⟨hF.symm, rfl⟩) ⟨Nat.le_of_ble_eq_true rfl, Nat.le_of_ble_eq_true rfl⟩ dX11_tale_43

def F_X11_tale1 (pe : Nat) (ta : Nat → Int32) (y : Int32) (z : Int32) (t : Int32) : Int32 × (Nat → Int32) := if F_X11_isNews y = 0 then (((0 : Int32), ta)) else (if F_X10_hasPerson (nI pe) z = 0 then (((0 : Int32), ta)) else (if t = (-1) then (((1 : Int32), (F_X10_setTale ta (tN y) (tN z) t))) else (if F_X11_isHourOrFirst t = 0 then (((0 : Int32), ta)) else (((1 : Int32), (F_X10_setTale ta (tN y) (tN z) t))))))
set_option maxHeartbeats 4000000 in
set_option maxRecDepth 100000 in
theorem K_X11_tale1 (l : Launch) (g : GG) (h0 : Nat) (a0 : Nat) (a1 : Nat) (a2 : Nat) (a3 : Nat) (a4 : Nat) (a5 : Nat) (a6 : Nat) (a7 : Nat) (a8 : Nat) (a9 : Nat) (a10 : Nat) (nv : Nat) (np : Nat) (cc : Int32) (fA : Nat → Option Nat) (i : Nat) (v : Nat) (v3 : Nat) (v4 : Nat) (v5 : Nat) (v6 : Nat) (v7 : Nat) (v8 : Nat) (v9 : Nat) (v10 : Nat) (v11 : Nat) (v12 : Nat) (v13 : Nat) (v15 : Nat) (pe : Nat) (lc : Int32) (de : Int32) (gl : Int32) (ta : Nat → Int32) (y : Int32) (z : Int32) (t : Int32) (hi : i < nv) (hn : nv ≤ 10) (hA : fA i = some v) (hpe : pe ≤ 7) : MetI l g yX11_tale cX11_tale 6 (some .boolean) 1 0 0 [.ref h0, .int (nI i), .int y, .int z, .int t] [(h0, .inr (11, [.ref a0, .ref a1, .ref a2, .ref a3, .ref a4, .ref a5, .ref a6, .ref a7, .ref a8, .ref a9, .ref a10, .int (nI nv), .int (nI np), .int cc])), (a1, .inl (g.2.1 4, 10, .inr (.inr (.inr (.inr fA))))), (v, .inr (10, [.int (nI pe), .int lc, .int de, .ref v3, .ref v4, .ref v5, .ref v6, .ref v7, .ref v8, .ref v9, .ref v10, .ref v11, .ref v12, .ref v13, .int gl, .ref v15])), (v13, .inl (g.2.1 1, 28, .inl ta))] (fun r u => r = (F_X11_tale1 pe ta y z t).1 ∧ u = [(h0, .inr (11, [.ref a0, .ref a1, .ref a2, .ref a3, .ref a4, .ref a5, .ref a6, .ref a7, .ref a8, .ref a9, .ref a10, .int (nI nv), .int (nI np), .int cc])), (a1, .inl (g.2.1 4, 10, .inr (.inr (.inr (.inr fA))))), (v, .inr (10, [.int (nI pe), .int lc, .int de, .ref v3, .ref v4, .ref v5, .ref v6, .ref v7, .ref v8, .ref v9, .ref v10, .ref v11, .ref v12, .ref v13, .int gl, .ref v15])), (v13, .inl (g.2.1 1, 28, .inl ((F_X11_tale1 pe ta y z t).2)))]) := by
  refine MetI.of (own := RX11) rfl (by decide) (Nat.le_of_ble_eq_true rfl) ?_
  intro p e s m below meth c A ls args Q hQ X hr hin hW hl
  have hx := X.1
  have hb := X.2.1
  have hl : lv_has ls 6 [(0, .ref h0), (1, .int (nI i)), (2, .int y), (3, .int z), (4, .int t)] := hl
  refine lv_aload_n (pc := 0) hx hb dX11_tale_0 rfl (lv_at hl 0 rfl) ?_
  refine lv_iload_n (pc := 1) hx hb dX11_tale_1 rfl (lv_at hl 1 rfl) ?_
  refine c_Vq (pc := 2) (As := [.int (nI i)]) (rest := []) (wr := [(v, .inr (10, [.int (nI pe), .int lc, .int de, .ref v3, .ref v4, .ref v5, .ref v6, .ref v7, .ref v8, .ref v9, .ref v10, .ref v11, .ref v12, .ref v13, .int gl, .ref v15])), (v13, .inl (g.2.1 1, 28, .inl ta))]) X hW 0 ciX11 rfl (C_X11_valleyAt1 l g h0 a0 a1 a2 a3 a4 a5 a6 a7 a8 a9 a10 nv np cc fA i v (by omega) (by omega) hA) vX11_101 [0, 1] [2, 3] rfl rfl rfl rfl rfl rfl hl.1 rfl (Nat.le_of_ble_eq_true rfl) ⟨Nat.le_of_ble_eq_true rfl, Nat.le_of_ble_eq_true rfl⟩ ⟨Nat.le_of_ble_eq_true rfl, Nat.le_of_ble_eq_true rfl⟩ dX11_tale_2 (fun r1 u9 H locs hq hW => ?_)
  obtain ⟨rfl, rfl⟩ := hq
  have hW : WD g A s _ _ [(v, .inr (10, [.int (nI pe), .int lc, .int de, .ref v3, .ref v4, .ref v5, .ref v6, .ref v7, .ref v8, .ref v9, .ref v10, .ref v11, .ref v12, .ref v13, .int gl, .ref v15])), (v13, .inl (g.2.1 1, 28, .inl ta)), (h0, .inr (11, [.ref a0, .ref a1, .ref a2, .ref a3, .ref a4, .ref a5, .ref a6, .ref a7, .ref a8, .ref a9, .ref a10, .int (nI nv), .int (nI np), .int cc])), (a1, .inl (g.2.1 4, 10, .inr (.inr (.inr (.inr fA)))))] := hW
  refine lv_astore (lv' := [(5, .ref v), (0, .ref h0), (1, .int (nI i)), (2, .int y), (3, .int z), (4, .int t)]) (pc := 5) hx hb dX11_tale_5 hl (by decide) rfl (fun ls hl => ?_)
  refine lv_aload (pc := 7) hx hb dX11_tale_7 (lv_at hl 0 rfl) ?_
  refine lv_ifnull (pc := 9) hx hb dX11_tale_9 ?_
  refine lv_iload_n (pc := 12) hx hb dX11_tale_12 rfl (lv_at hl 3 rfl) ?_
  refine c_Si (pc := 13) (As := [.int y]) (rest := []) (wr := [(v, .inr (10, [.int (nI pe), .int lc, .int de, .ref v3, .ref v4, .ref v5, .ref v6, .ref v7, .ref v8, .ref v9, .ref v10, .ref v11, .ref v12, .ref v13, .int gl, .ref v15])), (v13, .inl (g.2.1 1, 28, .inl ta)), (h0, .inr (11, [.ref a0, .ref a1, .ref a2, .ref a3, .ref a4, .ref a5, .ref a6, .ref a7, .ref a8, .ref a9, .ref a10, .int (nI nv), .int (nI np), .int cc])), (a1, .inl (g.2.1 4, 10, .inr (.inr (.inr (.inr fA)))))]) X hW (K_X11_isNews l g y) vX11_208 [] [0, 1, 2, 3] rfl rfl rfl rfl rfl rfl hl.1 rfl (Nat.le_of_ble_eq_true rfl) ⟨Nat.le_of_ble_eq_true rfl, Nat.le_of_ble_eq_true rfl⟩ ⟨Nat.le_of_ble_eq_true rfl, Nat.le_of_ble_eq_true rfl⟩ dX11_tale_13 (fun r2 u9 H locs hq hW => ?_)
  obtain ⟨rfl, rfl⟩ := hq
  have hW : WD g A s _ _ [(v, .inr (10, [.int (nI pe), .int lc, .int de, .ref v3, .ref v4, .ref v5, .ref v6, .ref v7, .ref v8, .ref v9, .ref v10, .ref v11, .ref v12, .ref v13, .int gl, .ref v15])), (v13, .inl (g.2.1 1, 28, .inl ta)), (h0, .inr (11, [.ref a0, .ref a1, .ref a2, .ref a3, .ref a4, .ref a5, .ref a6, .ref a7, .ref a8, .ref a9, .ref a10, .int (nI nv), .int (nI np), .int cc])), (a1, .inl (g.2.1 4, 10, .inr (.inr (.inr (.inr fA)))))] := hW
  refine lv_if_eq (tgt := 42) (pc := 16) hx hb dX11_tale_16 rfl (fun c3 => ?_) (fun c3 => ?_)
  · refine lv_iconst (v := 0) (pc := 42) hx hb dX11_tale_42 (by decide) ?_
    have hF : F_X11_tale1 pe ta y z t = ((0 : Int32), ta) := show F_X11_tale1 pe ta y z t = ((0 : Int32), ta) from by rw [F_X11_tale1, if_pos c3]
    exact e_z (u := [(h0, .inr (11, [.ref a0, .ref a1, .ref a2, .ref a3, .ref a4, .ref a5, .ref a6, .ref a7, .ref a8, .ref a9, .ref a10, .int (nI nv), .int (nI np), .int cc])), (a1, .inl (g.2.1 4, 10, .inr (.inr (.inr (.inr fA))))), (v, .inr (10, [.int (nI pe), .int lc, .int de, .ref v3, .ref v4, .ref v5, .ref v6, .ref v7, .ref v8, .ref v9, .ref v10, .ref v11, .ref v12, .ref v13, .int gl, .ref v15])), (v13, .inl (g.2.1 1, 28, .inl ta))]) X hQ hr (hW) rfl [2, 3, 0, 1] rfl rfl (⟨(congrArg Prod.fst hF).symm, by rw [hF]⟩) ⟨Nat.le_of_ble_eq_true rfl, Nat.le_of_ble_eq_true rfl⟩ dX11_tale_43
  · have q19 := c3
    refine lv_aload (pc := 19) hx hb dX11_tale_19 (lv_at hl 0 rfl) ?_
    refine lv_iload_n (pc := 21) hx hb dX11_tale_21 rfl (lv_at hl 4 rfl) ?_
    refine c_Vi (pc := 22) (As := [.int z]) (rest := []) (wr := [(v13, .inl (g.2.1 1, 28, .inl ta)), (h0, .inr (11, [.ref a0, .ref a1, .ref a2, .ref a3, .ref a4, .ref a5, .ref a6, .ref a7, .ref a8, .ref a9, .ref a10, .int (nI nv), .int (nI np), .int cc])), (a1, .inl (g.2.1 4, 10, .inr (.inr (.inr (.inr fA)))))]) X hW 0 ciX10 rfl (K_X10_hasPerson l g v v3 v4 v5 v6 v7 v8 v9 v10 v11 v12 v13 v15 (nI pe) lc de gl z) vX11_168 [0] [1, 2, 3] rfl rfl rfl rfl rfl rfl hl.1 rfl (Nat.le_of_ble_eq_true rfl) ⟨Nat.le_of_ble_eq_true rfl, Nat.le_of_ble_eq_true rfl⟩ ⟨Nat.le_of_ble_eq_true rfl, Nat.le_of_ble_eq_true rfl⟩ dX11_tale_22 (fun r6 u9 H locs hq hW => ?_)
    obtain ⟨rfl, rfl⟩ := hq
    have hW : WD g A s _ _ [(v13, .inl (g.2.1 1, 28, .inl ta)), (h0, .inr (11, [.ref a0, .ref a1, .ref a2, .ref a3, .ref a4, .ref a5, .ref a6, .ref a7, .ref a8, .ref a9, .ref a10, .int (nI nv), .int (nI np), .int cc])), (a1, .inl (g.2.1 4, 10, .inr (.inr (.inr (.inr fA))))), (v, .inr (10, [.int (nI pe), .int lc, .int de, .ref v3, .ref v4, .ref v5, .ref v6, .ref v7, .ref v8, .ref v9, .ref v10, .ref v11, .ref v12, .ref v13, .int gl, .ref v15]))] := hW
    refine lv_if_eq (tgt := 42) (pc := 25) hx hb dX11_tale_25 rfl (fun c7 => ?_) (fun c7 => ?_)
    · refine lv_iconst (v := 0) (pc := 42) hx hb dX11_tale_42 (by decide) ?_
      have hF : F_X11_tale1 pe ta y z t = ((0 : Int32), ta) := show F_X11_tale1 pe ta y z t = ((0 : Int32), ta) from by rw [F_X11_tale1, if_neg c3, if_pos c7]
      exact e_z (u := [(h0, .inr (11, [.ref a0, .ref a1, .ref a2, .ref a3, .ref a4, .ref a5, .ref a6, .ref a7, .ref a8, .ref a9, .ref a10, .int (nI nv), .int (nI np), .int cc])), (a1, .inl (g.2.1 4, 10, .inr (.inr (.inr (.inr fA))))), (v, .inr (10, [.int (nI pe), .int lc, .int de, .ref v3, .ref v4, .ref v5, .ref v6, .ref v7, .ref v8, .ref v9, .ref v10, .ref v11, .ref v12, .ref v13, .int gl, .ref v15])), (v13, .inl (g.2.1 1, 28, .inl ta))]) X hQ hr (hW) rfl [1, 2, 3, 0] rfl rfl (⟨(congrArg Prod.fst hF).symm, by rw [hF]⟩) ⟨Nat.le_of_ble_eq_true rfl, Nat.le_of_ble_eq_true rfl⟩ dX11_tale_43
    · have q28 := c7
      refine lv_iload (pc := 28) hx hb dX11_tale_28 (lv_at hl 5 rfl) ?_
      refine lv_iconst (v := (-1)) (pc := 30) hx hb dX11_tale_30 (by decide) ?_
      refine lv_icmp_eq (tgt := 44) (pc := 31) hx hb dX11_tale_31 rfl (fun c10 => ?_) (fun c10 => ?_)
      · have hnw := hn_at q19
        have hnw2 := hnw.2
        have hpp := hp_at (n := pe) (by omega) q28
        have hpp2 := hpp.2
        rw [hnw.1] at hl
        rw [hpp.1] at hl
        refine lv_aload (pc := 44) hx hb dX11_tale_44 (lv_at hl 0 rfl) ?_
        refine lv_iload_n (pc := 46) hx hb dX11_tale_46 rfl (lv_at hl 3 rfl) ?_
        refine lv_iload_n (pc := 47) hx hb dX11_tale_47 rfl (lv_at hl 4 rfl) ?_
        refine lv_iload (pc := 48) hx hb dX11_tale_48 (lv_at hl 5 rfl) ?_
        refine c_Vv (pc := 50) (As := [.int (nI (tN y)), .int (nI (tN z)), .int t]) (rest := []) (wr := [(h0, .inr (11, [.ref a0, .ref a1, .ref a2, .ref a3, .ref a4, .ref a5, .ref a6, .ref a7, .ref a8, .ref a9, .ref a10, .int (nI nv), .int (nI np), .int cc])), (a1, .inl (g.2.1 4, 10, .inr (.inr (.inr (.inr fA)))))]) X hW 3 ciX10 rfl (K_X10_setTale l g v v3 v4 v5 v6 v7 v8 v9 v10 v11 v12 v13 v15 (nI pe) lc de gl ta (tN y) (tN z) t (by omega) (by omega)) vX11_308 [3, 0] [1, 2] rfl rfl rfl rfl rfl rfl hl.1 rfl (Nat.le_of_ble_eq_true rfl) ⟨Nat.le_of_ble_eq_true rfl, Nat.le_of_ble_eq_true rfl⟩ ⟨Nat.le_of_ble_eq_true rfl, Nat.le_of_ble_eq_true rfl⟩ dX11_tale_50 (fun u9 H locs hq hW => ?_)
        obtain rfl := hq
        have hW : WD g A s _ _ [(h0, .inr (11, [.ref a0, .ref a1, .ref a2, .ref a3, .ref a4, .ref a5, .ref a6, .ref a7, .ref a8, .ref a9, .ref a10, .int (nI nv), .int (nI np), .int cc])), (a1, .inl (g.2.1 4, 10, .inr (.inr (.inr (.inr fA))))), (v, .inr (10, [.int (nI pe), .int lc, .int de, .ref v3, .ref v4, .ref v5, .ref v6, .ref v7, .ref v8, .ref v9, .ref v10, .ref v11, .ref v12, .ref v13, .int gl, .ref v15])), (v13, .inl (g.2.1 1, 28, .inl (F_X10_setTale ta (tN y) (tN z) t)))] := hW
        refine lv_iconst (v := 1) (pc := 53) hx hb dX11_tale_53 (by decide) ?_
        have hF : F_X11_tale1 pe ta y z t = ((1 : Int32), (F_X10_setTale ta (tN y) (tN z) t)) := show F_X11_tale1 pe ta y z t = ((1 : Int32), (F_X10_setTale ta (tN y) (tN z) t)) from by rw [F_X11_tale1, if_neg c3, if_neg c7, if_pos c10]
        exact e_z (u := [(h0, .inr (11, [.ref a0, .ref a1, .ref a2, .ref a3, .ref a4, .ref a5, .ref a6, .ref a7, .ref a8, .ref a9, .ref a10, .int (nI nv), .int (nI np), .int cc])), (a1, .inl (g.2.1 4, 10, .inr (.inr (.inr (.inr fA))))), (v, .inr (10, [.int (nI pe), .int lc, .int de, .ref v3, .ref v4, .ref v5, .ref v6, .ref v7, .ref v8, .ref v9, .ref v10, .ref v11, .ref v12, .ref v13, .int gl, .ref v15])), (v13, .inl (g.2.1 1, 28, .inl (F_X10_setTale ta (tN y) (tN z) t)))]) X hQ hr (hW) rfl [0, 1, 2, 3] rfl rfl (⟨(congrArg Prod.fst hF).symm, by rw [hF]⟩) ⟨Nat.le_of_ble_eq_true rfl, Nat.le_of_ble_eq_true rfl⟩ dX11_tale_54
      · refine lv_iload (pc := 34) hx hb dX11_tale_34 (lv_at hl 5 rfl) ?_
        refine c_Si (pc := 36) (As := [.int t]) (rest := []) (wr := [(v13, .inl (g.2.1 1, 28, .inl ta)), (h0, .inr (11, [.ref a0, .ref a1, .ref a2, .ref a3, .ref a4, .ref a5, .ref a6, .ref a7, .ref a8, .ref a9, .ref a10, .int (nI nv), .int (nI np), .int cc])), (a1, .inl (g.2.1 4, 10, .inr (.inr (.inr (.inr fA))))), (v, .inr (10, [.int (nI pe), .int lc, .int de, .ref v3, .ref v4, .ref v5, .ref v6, .ref v7, .ref v8, .ref v9, .ref v10, .ref v11, .ref v12, .ref v13, .int gl, .ref v15]))]) X hW (K_X11_isHourOrFirst l g t) vX11_186 [] [0, 1, 2, 3] rfl rfl rfl rfl rfl rfl hl.1 rfl (Nat.le_of_ble_eq_true rfl) ⟨Nat.le_of_ble_eq_true rfl, Nat.le_of_ble_eq_true rfl⟩ ⟨Nat.le_of_ble_eq_true rfl, Nat.le_of_ble_eq_true rfl⟩ dX11_tale_36 (fun r13 u9 H locs hq hW => ?_)
        obtain ⟨rfl, rfl⟩ := hq
        have hW : WD g A s _ _ [(v13, .inl (g.2.1 1, 28, .inl ta)), (h0, .inr (11, [.ref a0, .ref a1, .ref a2, .ref a3, .ref a4, .ref a5, .ref a6, .ref a7, .ref a8, .ref a9, .ref a10, .int (nI nv), .int (nI np), .int cc])), (a1, .inl (g.2.1 4, 10, .inr (.inr (.inr (.inr fA))))), (v, .inr (10, [.int (nI pe), .int lc, .int de, .ref v3, .ref v4, .ref v5, .ref v6, .ref v7, .ref v8, .ref v9, .ref v10, .ref v11, .ref v12, .ref v13, .int gl, .ref v15]))] := hW
        refine lv_if_ne (tgt := 44) (pc := 39) hx hb dX11_tale_39 rfl (fun c14 => ?_) (fun c14 => ?_)
        · have hnw := hn_at q19
          have hnw2 := hnw.2
          have hpp := hp_at (n := pe) (by omega) q28
          have hpp2 := hpp.2
          rw [hnw.1] at hl
          rw [hpp.1] at hl
          refine lv_aload (pc := 44) hx hb dX11_tale_44 (lv_at hl 0 rfl) ?_
          refine lv_iload_n (pc := 46) hx hb dX11_tale_46 rfl (lv_at hl 3 rfl) ?_
          refine lv_iload_n (pc := 47) hx hb dX11_tale_47 rfl (lv_at hl 4 rfl) ?_
          refine lv_iload (pc := 48) hx hb dX11_tale_48 (lv_at hl 5 rfl) ?_
          refine c_Vv (pc := 50) (As := [.int (nI (tN y)), .int (nI (tN z)), .int t]) (rest := []) (wr := [(h0, .inr (11, [.ref a0, .ref a1, .ref a2, .ref a3, .ref a4, .ref a5, .ref a6, .ref a7, .ref a8, .ref a9, .ref a10, .int (nI nv), .int (nI np), .int cc])), (a1, .inl (g.2.1 4, 10, .inr (.inr (.inr (.inr fA)))))]) X hW 3 ciX10 rfl (K_X10_setTale l g v v3 v4 v5 v6 v7 v8 v9 v10 v11 v12 v13 v15 (nI pe) lc de gl ta (tN y) (tN z) t (by omega) (by omega)) vX11_308 [3, 0] [1, 2] rfl rfl rfl rfl rfl rfl hl.1 rfl (Nat.le_of_ble_eq_true rfl) ⟨Nat.le_of_ble_eq_true rfl, Nat.le_of_ble_eq_true rfl⟩ ⟨Nat.le_of_ble_eq_true rfl, Nat.le_of_ble_eq_true rfl⟩ dX11_tale_50 (fun u9 H locs hq hW => ?_)
          obtain rfl := hq
          have hW : WD g A s _ _ [(h0, .inr (11, [.ref a0, .ref a1, .ref a2, .ref a3, .ref a4, .ref a5, .ref a6, .ref a7, .ref a8, .ref a9, .ref a10, .int (nI nv), .int (nI np), .int cc])), (a1, .inl (g.2.1 4, 10, .inr (.inr (.inr (.inr fA))))), (v, .inr (10, [.int (nI pe), .int lc, .int de, .ref v3, .ref v4, .ref v5, .ref v6, .ref v7, .ref v8, .ref v9, .ref v10, .ref v11, .ref v12, .ref v13, .int gl, .ref v15])), (v13, .inl (g.2.1 1, 28, .inl (F_X10_setTale ta (tN y) (tN z) t)))] := hW
          refine lv_iconst (v := 1) (pc := 53) hx hb dX11_tale_53 (by decide) ?_
          have hF : F_X11_tale1 pe ta y z t = ((1 : Int32), (F_X10_setTale ta (tN y) (tN z) t)) := show F_X11_tale1 pe ta y z t = ((1 : Int32), (F_X10_setTale ta (tN y) (tN z) t)) from by rw [F_X11_tale1, if_neg c3, if_neg c7, if_neg c10, if_neg c14]
          exact e_z (u := [(h0, .inr (11, [.ref a0, .ref a1, .ref a2, .ref a3, .ref a4, .ref a5, .ref a6, .ref a7, .ref a8, .ref a9, .ref a10, .int (nI nv), .int (nI np), .int cc])), (a1, .inl (g.2.1 4, 10, .inr (.inr (.inr (.inr fA))))), (v, .inr (10, [.int (nI pe), .int lc, .int de, .ref v3, .ref v4, .ref v5, .ref v6, .ref v7, .ref v8, .ref v9, .ref v10, .ref v11, .ref v12, .ref v13, .int gl, .ref v15])), (v13, .inl (g.2.1 1, 28, .inl (F_X10_setTale ta (tN y) (tN z) t)))]) X hQ hr (hW) rfl [0, 1, 2, 3] rfl rfl (⟨(congrArg Prod.fst hF).symm, by rw [hF]⟩) ⟨Nat.le_of_ble_eq_true rfl, Nat.le_of_ble_eq_true rfl⟩ dX11_tale_54
        · refine lv_iconst (v := 0) (pc := 42) hx hb dX11_tale_42 (by decide) ?_
          have hF : F_X11_tale1 pe ta y z t = ((0 : Int32), ta) := show F_X11_tale1 pe ta y z t = ((0 : Int32), ta) from by rw [F_X11_tale1, if_neg c3, if_neg c7, if_neg c10, if_pos c14]
          exact e_z (u := [(h0, .inr (11, [.ref a0, .ref a1, .ref a2, .ref a3, .ref a4, .ref a5, .ref a6, .ref a7, .ref a8, .ref a9, .ref a10, .int (nI nv), .int (nI np), .int cc])), (a1, .inl (g.2.1 4, 10, .inr (.inr (.inr (.inr fA))))), (v, .inr (10, [.int (nI pe), .int lc, .int de, .ref v3, .ref v4, .ref v5, .ref v6, .ref v7, .ref v8, .ref v9, .ref v10, .ref v11, .ref v12, .ref v13, .int gl, .ref v15])), (v13, .inl (g.2.1 1, 28, .inl ta))]) X hQ hr (hW) rfl [1, 2, 3, 0] rfl rfl (⟨(congrArg Prod.fst hF).symm, by rw [hF]⟩) ⟨Nat.le_of_ble_eq_true rfl, Nat.le_of_ble_eq_true rfl⟩ dX11_tale_43

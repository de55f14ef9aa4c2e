theorem dX12_taleOf_0 : decode cX12_taleOf 0 = .ok (.aload_n 0, 1) := DX12_taleOf _ _ _ rfl
theorem dX12_taleOf_1 : decode cX12_taleOf 1 = .ok (.getfield 151, 3) := DX12_taleOf _ _ _ rfl
theorem dX12_taleOf_4 : decode cX12_taleOf 4 = .ok (.bipush 7, 2) := DX12_taleOf _ _ _ rfl
theorem dX12_taleOf_6 : decode cX12_taleOf 6 = .ok (.iconst 4, 1) := DX12_taleOf _ _ _ rfl
theorem dX12_taleOf_7 : decode cX12_taleOf 7 = .ok (.iload_n 1, 1) := DX12_taleOf _ _ _ rfl
theorem dX12_taleOf_8 : decode cX12_taleOf 8 = .ok (.imul, 1) := DX12_taleOf _ _ _ rfl
theorem dX12_taleOf_9 : decode cX12_taleOf 9 = .ok (.iload_n 2, 1) := DX12_taleOf _ _ _ rfl
theorem dX12_taleOf_10 : decode cX12_taleOf 10 = .ok (.iadd, 1) := DX12_taleOf _ _ _ rfl
theorem dX12_taleOf_11 : decode cX12_taleOf 11 = .ok (.imul, 1) := DX12_taleOf _ _ _ rfl
theorem dX12_taleOf_12 : decode cX12_taleOf 12 = .ok (.iload_n 3, 1) := DX12_taleOf _ _ _ rfl
theorem dX12_taleOf_13 : decode cX12_taleOf 13 = .ok (.iadd, 1) := DX12_taleOf _ _ _ rfl
theorem dX12_taleOf_14 : decode cX12_taleOf 14 = .ok (.iaload, 1) := DX12_taleOf _ _ _ rfl
theorem dX12_taleOf_15 : decode cX12_taleOf 15 = .ok (.ireturn, 1) := DX12_taleOf _ _ _ rfl
def F_X12_taleOf (tA : Nat → Int32) (v9 : Nat) (nw : Nat) (o : Nat) : Int32 := tA (7 * (4 * v9 + nw) + o)
set_option maxHeartbeats 4000000 in
set_option maxRecDepth 100000 in
theorem K_X12_taleOf (l : Launch) (g : GG) (h0 : Nat) (vs : List Value) (b61 : Nat) (tA : Nat → Int32) (v9 : Nat) (nw : Nat) (o : Nat) (hlen : vs.length = 64) (h61_ : vs[61]? = some (.ref b61)) (hv9 : v9 < 11) (hnw : nw < 4) (ho : o < 7) : MetI l g yX12_taleOf cX12_taleOf 4 (some .int) 0 0 0 [.ref h0, .int (nI v9), .int (nI nw), .int (nI o)] [(h0, .inr (12, vs)), (b61, .inl (g.2.1 1, 308, .inl tA))] (fun r u => r = (F_X12_taleOf tA v9 nw o) ∧ u = [(h0, .inr (12, vs)), (b61, .inl (g.2.1 1, 308, .inl tA))]) := by
  refine MetI.of (own := RX12) rfl (by decide) (Nat.le_of_ble_eq_true rfl) ?_
  intro p e s m below meth c A ls args Q hQ X hr hin hW hl
  have hx := X.1
  have hb := X.2.1
  have hl : lv_has ls 4 [(0, .ref h0), (1, .int (nI v9)), (2, .int (nI nw)), (3, .int (nI o))] := hl
  refine lv_aload_n (pc := 0) hx hb dX12_taleOf_0 rfl (lv_at hl 0 rfl) ?_
  refine r_get X hW 0 ciX12 61 rfl (by decide) m_1288 rfl h61_ dX12_taleOf_1 ?_
  refine lv_bipush (v := 7) (pc := 4) hx hb dX12_taleOf_4 (by decide) ?_
  refine lv_iconst (v := 4) (pc := 6) hx hb dX12_taleOf_6 (by decide) ?_
  refine lv_iload_n (pc := 7) hx hb dX12_taleOf_7 rfl (lv_at hl 1 rfl) ?_
  refine lv_imul (pc := 8) hx hb dX12_taleOf_8 ?_
  refine lv_topi (fun v1 ev1 => ?_)
  obtain rfl : v1 = nI (4 * v9) := ev1.trans (pk_mul 4 v9)
  refine lv_iload_n (pc := 9) hx hb dX12_taleOf_9 rfl (lv_at hl 2 rfl) ?_
  refine lv_iadd (pc := 10) hx hb dX12_taleOf_10 ?_
  refine lv_topi (fun v2 ev2 => ?_)
  obtain rfl : v2 = nI (4 * v9 + nw) := ev2.trans (nI_add _ _)
  refine lv_imul (pc := 11) hx hb dX12_taleOf_11 ?_
  refine lv_topi (fun v3 ev3 => ?_)
  obtain rfl : v3 = nI (7 * (4 * v9 + nw)) := ev3.trans (pk_mul 7 (4 * v9 + nw))
  refine lv_iload_n (pc := 12) hx hb dX12_taleOf_12 rfl (lv_at hl 3 rfl) ?_
  refine lv_iadd (pc := 13) hx hb dX12_taleOf_13 ?_
  refine lv_topi (fun v4 ev4 => ?_)
  obtain rfl : v4 = nI (7 * (4 * v9 + nw) + o) := ev4.trans (nI_add _ _)
  refine r_iald X hW 1 rfl (vp_in_nI (by omega) (by decide)) dX12_taleOf_14 ?_
  refine lv_topi (fun v5 ev5 => ?_)
  obtain rfl : v5 = tA (7 * (4 * v9 + nw) + o) := ev5.trans (by rw [nI_clamp (by omega)])
  have hF : F_X12_taleOf tA v9 nw o = tA (7 * (4 * v9 + nw) + o) := show F_X12_taleOf tA v9 nw o = tA (7 * (4 * v9 + nw) + o) from rfl
  exact e_i (u := [(h0, .inr (12, vs)), (b61, .inl (g.2.1 1, 308, .inl tA))]) X hQ hr (hW) [0, 1] rfl rfl (⟨hF.symm, rfl⟩) ⟨Nat.le_of_ble_eq_true rfl, Nat.le_of_ble_eq_true rfl⟩ dX12_taleOf_15

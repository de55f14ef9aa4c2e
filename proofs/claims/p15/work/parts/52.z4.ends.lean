def F_X12_everybody (rP : Nat → Int32) (i : Nat) : Int32 := ((1 : Int32) <<< ((rP i) &&& 31)) - (1 : Int32)
set_option maxHeartbeats 4000000 in
set_option maxRecDepth 100000 in
theorem K_X12_everybody (l : Launch) (g : GG) (h0 : Nat) (vs : List Value) (b6 : Nat) (rP : Nat → Int32) (i : Nat) (hlen : vs.length = 64) (h6_ : vs[6]? = some (.ref b6)) (hi : i < 11) : MetI l g yX12_everybody cX12_everybody 2 (some .int) 0 0 0 [.ref h0, .int (nI i)] [(h0, .inr (12, vs)), (b6, .inl (g.2.1 1, 11, .inl rP))] (fun r u => r = (F_X12_everybody rP i) ∧ u = [(h0, .inr (12, vs)), (b6, .inl (g.2.1 1, 11, .inl rP))]) := by
  refine MetI.of (own := RX12) rfl (by decide) (Nat.le_of_ble_eq_true rfl) ?_
  intro p e s m below meth c A ls args Q hQ X hr hin hW hl
  have hx := X.1
  have hb := X.2.1
  have hl : lv_has ls 2 [(0, .ref h0), (1, .int (nI i))] := hl
  refine lv_iconst (v := 1) (pc := 0) hx hb dX12_everybody_0 (by decide) ?_
  refine lv_aload_n (pc := 1) hx hb dX12_everybody_1 rfl (lv_at hl 0 rfl) ?_
  refine r_get X hW 0 ciX12 6 rfl (by decide) m_1237 rfl h6_ dX12_everybody_2 ?_
  refine lv_iload_n (pc := 5) hx hb dX12_everybody_5 rfl (lv_at hl 1 rfl) ?_
  refine r_iald X hW 1 rfl (vp_in_nI (by omega) (by decide)) dX12_everybody_6 ?_
  refine lv_topi (fun v1 ev1 => ?_)
  obtain rfl : v1 = rP i := ev1.trans (by rw [nI_clamp (by omega)])
  refine lv_ishl (pc := 7) hx hb dX12_everybody_7 ?_
  refine lv_iconst (v := 1) (pc := 8) hx hb dX12_everybody_8 (by decide) ?_
  refine lv_isub (pc := 9) hx hb dX12_everybody_9 ?_
  have hF : F_X12_everybody rP i = ((1 : Int32) <<< ((rP i) &&& 31)) - (1 : Int32) := show F_X12_everybody rP i = ((1 : Int32) <<< ((rP i) &&& 31)) - (1 : Int32) from rfl
  exact e_i (u := [(h0, .inr (12, vs)), (b6, .inl (g.2.1 1, 11, .inl rP))]) X hQ hr (hW) [0, 1] rfl rfl (⟨hF.symm, rfl⟩) ⟨Nat.le_of_ble_eq_true rfl, Nat.le_of_ble_eq_true rfl⟩ dX12_everybody_10

/-- what a tape of n bytes answers to five numbers: its new length, or -1 where they don't fit -/
def fdn (n s : Nat) : Nat := if n + s ≤ 400 then n + s else n
def fdr (n s : Nat) : Int32 := if n + s ≤ 400 then nI (n + s) else -1
theorem fdn_le {n s : Nat} (h : n ≤ 400) : fdn n s ≤ 400 := by unfold fdn; split <;> omega
def s5 (p0 p1 p2 p3 p4 : Int32) : Nat := cnt p0 4 + cnt p1 4 + cnt p2 4 + cnt p3 4 + cnt p4 4
/-- .. and to a cut at x -/
def ctr (n : Nat) (x : Int32) : Int32 := if ¬ x < 0 ∧ x ≤ nI n then 1 else 0
def ctn (n : Nat) (x : Int32) : Nat := if ¬ x < 0 ∧ x ≤ nI n then x.toNatClampNeg else n
theorem ct_in {n : Nat} {x : Int32} (hn : n ≤ 400) (h1 : ¬ x < 0) (h2 : x ≤ nI n) : ctr n x = 1 ∧ x = nI (ctn n x) ∧ ctn n x ≤ 400 := by
  obtain ⟨j, hj, rfl⟩ := nI_of2 (n := n) (nI_toInt (by omega)) h1 h2
  unfold ctr ctn
  rw [if_pos ⟨h1, h2⟩, if_pos ⟨h1, h2⟩, nI_clamp (by omega)]
  exact ⟨rfl, rfl, by omega⟩
theorem ct_out {n : Nat} {x : Int32} (h : ¬ (¬ x < 0 ∧ x ≤ nI n)) : ctr n x = 0 ∧ ctn n x = n := ⟨if_neg h, if_neg h⟩
theorem ctr_z (n : Nat) (x : Int32) : narrow .boolean (.int (ctr n x)) = .int (ctr n x) := by unfold ctr; split <;> rfl
theorem dX8_append_41 : decode cX8_append 41 = .ok (.iconst (-1), 1) := DX8_append _ _ _ rfl
theorem dX8_append_42 : decode cX8_append 42 = .ok (.ireturn, 1) := DX8_append _ _ _ rfl
theorem dX12_feed_42 : decode cX12_feed 42 = .ok (.iconst (-1), 1) := DX12_feed _ _ _ rfl
theorem dX12_feed_43 : decode cX12_feed 43 = .ok (.ireturn, 1) := DX12_feed _ _ _ rfl
set_option maxHeartbeats 4000000 in
set_option maxRecDepth 100000 in
theorem C_X8_cutG (l : Launch) (g : GG) (h0 q : Nat) (f0 : Nat → Int32) (n0 : Nat) (pl p0 : Int32) (hn0 : n0 ≤ 400) : MetI l g yX8_cut cX8_cut 2 (some .boolean) 0 0 0 [.ref h0, .int p0] [(h0, .inr (8, [.ref q, .int (nI n0), .int pl])), (q, .inl (g.2.1 1, 400, .inl f0))] (fun r u => r = ctr n0 p0 ∧ u = [(h0, .inr (8, [.ref q, .int (nI (ctn n0 p0)), .int pl])), (q, .inl (g.2.1 1, 400, .inl f0))]) := by
  refine MetI.of (own := RX8) rfl (by decide) (Nat.le_of_ble_eq_true rfl) ?_
  intro p e s m below meth c A ls args Q hQ X hr hin hW hl
  have hx := X.1
  have hb := X.2.1
  have hl : lv_has ls 2 [(0, .ref h0), (1, .int p0)] := hl
  refine lv_iload_n (pc := 0) hx hb dX8_cut_0 rfl (lv_at hl 1 rfl) ?_
  refine lv_if_lt (tgt := 12) (pc := 1) hx hb dX8_cut_1 rfl (fun c1 => ?_) (fun c1 => ?_)
  · refine lv_iconst (v := 0) (pc := 12) hx hb dX8_cut_12 (by decide) ?_
    exact e_z X hQ hr hW (u := [(h0, .inr (8, [.ref q, .int (nI n0), .int pl])), (q, .inl (g.2.1 1, 400, .inl f0))]) rfl [0, 1] rfl rfl (⟨(ct_out (fun h9 => by first | exact h9.1 c1 | exact c1 h9.2)).1.symm, by rw [(ct_out (fun h9 => by first | exact h9.1 c1 | exact c1 h9.2)).2]⟩) ⟨Nat.le_of_ble_eq_true rfl, Nat.le_of_ble_eq_true rfl⟩ dX8_cut_13
  · have hg := c1
    refine lv_iload_n (pc := 4) hx hb dX8_cut_4 rfl (lv_at hl 1 rfl) ?_
    refine lv_aload_n (pc := 5) hx hb dX8_cut_5 rfl (lv_at hl 0 rfl) ?_
    refine r_get X hW 0 ciX8 1 rfl (by decide) m_37 rfl rfl dX8_cut_6 ?_
    refine lv_icmp_le (tgt := 14) (pc := 9) hx hb dX8_cut_9 rfl (fun c2 => ?_) (fun c2 => ?_)
    · obtain ⟨k1, k2, k3⟩ := ct_in hn0 hg c2
      refine lv_aload_n (pc := 14) hx hb dX8_cut_14 rfl (lv_at hl 0 rfl) ?_
      refine lv_iload_n (pc := 15) hx hb dX8_cut_15 rfl (lv_at hl 1 rfl) ?_
      refine r_put (ws' := [(h0, .inr (8, [.ref q, .int p0, .int pl])), (q, .inl (g.2.1 1, 400, .inl f0))]) X hW 0 ciX8 1 rfl (by decide) m_37 rfl rfl rfl rfl (Nat.le_of_ble_eq_true rfl) rfl dX8_cut_16 (fun H locs hW => ?_)
      refine lv_iconst (v := 1) (pc := 19) hx hb dX8_cut_19 (by decide) ?_
      exact e_z X hQ hr hW (u := [(h0, .inr (8, [.ref q, .int p0, .int pl])), (q, .inl (g.2.1 1, 400, .inl f0))]) rfl [0, 1] rfl rfl (⟨k1.symm, by rw [← k2]⟩) ⟨Nat.le_of_ble_eq_true rfl, Nat.le_of_ble_eq_true rfl⟩ dX8_cut_20
    · refine lv_iconst (v := 0) (pc := 12) hx hb dX8_cut_12 (by decide) ?_
      exact e_z X hQ hr hW (u := [(h0, .inr (8, [.ref q, .int (nI n0), .int pl])), (q, .inl (g.2.1 1, 400, .inl f0))]) rfl [0, 1] rfl rfl (⟨(ct_out (fun h9 => by first | exact h9.1 c2 | exact c2 h9.2)).1.symm, by rw [(ct_out (fun h9 => by first | exact h9.1 c2 | exact c2 h9.2)).2]⟩) ⟨Nat.le_of_ble_eq_true rfl, Nat.le_of_ble_eq_true rfl⟩ dX8_cut_13

set_option maxHeartbeats 4000000 in
set_option maxRecDepth 100000 in
theorem C_X12_endG (l : Launch) (g : GG) (h0 b1 b6 b7 b8 b9 b10 b11 b12 b13 b14 b15 b16 b17 b21 b22 b23 b24 b25 b26 b28 b29 b30 b31 b32 b33 b34 b35 b36 b46 b47 b48 b49 b50 b51 b52 b53 b54 b55 b56 b57 b58 b59 b60 b61 b62 b63 : Nat) (i0 i3 i4 i5 i18 i19 i20 i27 i37 i38 i39 i40 i41 i42 i43 i44 i45 : Int32) (n0 : Nat) (p0 : Int32) (hn0 : n0 ≤ 400) : MetI l g yX12_end cX12_end 2 (some .boolean) 0 0 0 [.ref h0, .int p0] [(h0, .inr (12, [.int i0, .ref b1, .int (nI n0), .int i3, .int i4, .int i5, .ref b6, .ref b7, .ref b8, .ref b9, .ref b10, .ref b11, .ref b12, .ref b13, .ref b14, .ref b15, .ref b16, .ref b17, .int i18, .int i19, .int i20, .ref b21, .ref b22, .ref b23, .ref b24, .ref b25, .ref b26, .int i27, .ref b28, .ref b29, .ref b30, .ref b31, .ref b32, .ref b33, .ref b34, .ref b35, .ref b36, .int i37, .int i38, .int i39, .int i40, .int i41, .int i42, .int i43, .int i44, .int i45, .ref b46, .ref b47, .ref b48, .ref b49, .ref b50, .ref b51, .ref b52, .ref b53, .ref b54, .ref b55, .ref b56, .ref b57, .ref b58, .ref b59, .ref b60, .ref b61, .ref b62, .ref b63]))] (fun r u => r = ctr n0 p0 ∧ u = [(h0, .inr (12, [.int 0, .ref b1, .int (nI (ctn n0 p0)), .int i3, .int i4, .int i5, .ref b6, .ref b7, .ref b8, .ref b9, .ref b10, .ref b11, .ref b12, .ref b13, .ref b14, .ref b15, .ref b16, .ref b17, .int i18, .int i19, .int i20, .ref b21, .ref b22, .ref b23, .ref b24, .ref b25, .ref b26, .int i27, .ref b28, .ref b29, .ref b30, .ref b31, .ref b32, .ref b33, .ref b34, .ref b35, .ref b36, .int i37, .int i38, .int i39, .int i40, .int i41, .int i42, .int i43, .int i44, .int i45, .ref b46, .ref b47, .ref b48, .ref b49, .ref b50, .ref b51, .ref b52, .ref b53, .ref b54, .ref b55, .ref b56, .ref b57, .ref b58, .ref b59, .ref b60, .ref b61, .ref b62, .ref b63]))]) := by
  refine MetI.of (own := RX12) rfl (by decide) (Nat.le_of_ble_eq_true rfl) ?_
  intro p e s m below meth c A ls args Q hQ X hr hin hW hl
  have hx := X.1
  have hb := X.2.1
  have hl : lv_has ls 2 [(0, .ref h0), (1, .int p0)] := hl
  refine lv_aload_n (pc := 0) hx hb dX12_end_0 rfl (lv_at hl 0 rfl) ?_
  refine lv_iconst (v := 0) (pc := 1) hx hb dX12_end_1 (by decide) ?_
  refine r_put (ws' := [(h0, .inr (12, [.int 0, .ref b1, .int (nI n0), .int i3, .int i4, .int i5, .ref b6, .ref b7, .ref b8, .ref b9, .ref b10, .ref b11, .ref b12, .ref b13, .ref b14, .ref b15, .ref b16, .ref b17, .int i18, .int i19, .int i20, .ref b21, .ref b22, .ref b23, .ref b24, .ref b25, .ref b26, .int i27, .ref b28, .ref b29, .ref b30, .ref b31, .ref b32, .ref b33, .ref b34, .ref b35, .ref b36, .int i37, .int i38, .int i39, .int i40, .int i41, .int i42, .int i43, .int i44, .int i45, .ref b46, .ref b47, .ref b48, .ref b49, .ref b50, .ref b51, .ref b52, .ref b53, .ref b54, .ref b55, .ref b56, .ref b57, .ref b58, .ref b59, .ref b60, .ref b61, .ref b62, .ref b63]))]) X hW 0 ciX12 0 rfl (by decide) m_1231 rfl rfl rfl rfl (Nat.le_of_ble_eq_true rfl) rfl dX12_end_2 (fun H locs hW => ?_)
  refine lv_iload_n (pc := 5) hx hb dX12_end_5 rfl (lv_at hl 1 rfl) ?_
  refine lv_if_lt (tgt := 17) (pc := 6) hx hb dX12_end_6 rfl (fun c1 => ?_) (fun c1 => ?_)
  · refine lv_iconst (v := 0) (pc := 17) hx hb dX12_end_17 (by decide) ?_
    exact e_z X hQ hr hW (u := [(h0, .inr (12, [.int 0, .ref b1, .int (nI n0), .int i3, .int i4, .int i5, .ref b6, .ref b7, .ref b8, .ref b9, .ref b10, .ref b11, .ref b12, .ref b13, .ref b14, .ref b15, .ref b16, .ref b17, .int i18, .int i19, .int i20, .ref b21, .ref b22, .ref b23, .ref b24, .ref b25, .ref b26, .int i27, .ref b28, .ref b29, .ref b30, .ref b31, .ref b32, .ref b33, .ref b34, .ref b35, .ref b36, .int i37, .int i38, .int i39, .int i40, .int i41, .int i42, .int i43, .int i44, .int i45, .ref b46, .ref b47, .ref b48, .ref b49, .ref b50, .ref b51, .ref b52, .ref b53, .ref b54, .ref b55, .ref b56, .ref b57, .ref b58, .ref b59, .ref b60, .ref b61, .ref b62, .ref b63]))]) rfl [0] rfl rfl (⟨(ct_out (fun h9 => by first | exact h9.1 c1 | exact c1 h9.2)).1.symm, by rw [(ct_out (fun h9 => by first | exact h9.1 c1 | exact c1 h9.2)).2]⟩) ⟨Nat.le_of_ble_eq_true rfl, Nat.le_of_ble_eq_true rfl⟩ dX12_end_18
  · have hg := c1
    refine lv_iload_n (pc := 9) hx hb dX12_end_9 rfl (lv_at hl 1 rfl) ?_
    refine lv_aload_n (pc := 10) hx hb dX12_end_10 rfl (lv_at hl 0 rfl) ?_
    refine r_get X hW 0 ciX12 2 rfl (by decide) m_1233 rfl rfl dX12_end_11 ?_
    refine lv_icmp_le (tgt := 19) (pc := 14) hx hb dX12_end_14 rfl (fun c2 => ?_) (fun c2 => ?_)
    · obtain ⟨k1, k2, k3⟩ := ct_in hn0 hg c2
      refine lv_aload_n (pc := 19) hx hb dX12_end_19 rfl (lv_at hl 0 rfl) ?_
      refine lv_iload_n (pc := 20) hx hb dX12_end_20 rfl (lv_at hl 1 rfl) ?_
      refine r_put (ws' := [(h0, .inr (12, [.int 0, .ref b1, .int p0, .int i3, .int i4, .int i5, .ref b6, .ref b7, .ref b8, .ref b9, .ref b10, .ref b11, .ref b12, .ref b13, .ref b14, .ref b15, .ref b16, .ref b17, .int i18, .int i19, .int i20, .ref b21, .ref b22, .ref b23, .ref b24, .ref b25, .ref b26, .int i27, .ref b28, .ref b29, .ref b30, .ref b31, .ref b32, .ref b33, .ref b34, .ref b35, .ref b36, .int i37, .int i38, .int i39, .int i40, .int i41, .int i42, .int i43, .int i44, .int i45, .ref b46, .ref b47, .ref b48, .ref b49, .ref b50, .ref b51, .ref b52, .ref b53, .ref b54, .ref b55, .ref b56, .ref b57, .ref b58, .ref b59, .ref b60, .ref b61, .ref b62, .ref b63]))]) X hW 0 ciX12 2 rfl (by decide) m_1233 rfl rfl rfl rfl (Nat.le_of_ble_eq_true rfl) rfl dX12_end_21 (fun H locs hW => ?_)
      refine lv_iconst (v := 1) (pc := 24) hx hb dX12_end_24 (by decide) ?_
      exact e_z X hQ hr hW (u := [(h0, .inr (12, [.int 0, .ref b1, .int p0, .int i3, .int i4, .int i5, .ref b6, .ref b7, .ref b8, .ref b9, .ref b10, .ref b11, .ref b12, .ref b13, .ref b14, .ref b15, .ref b16, .ref b17, .int i18, .int i19, .int i20, .ref b21, .ref b22, .ref b23, .ref b24, .ref b25, .ref b26, .int i27, .ref b28, .ref b29, .ref b30, .ref b31, .ref b32, .ref b33, .ref b34, .ref b35, .ref b36, .int i37, .int i38, .int i39, .int i40, .int i41, .int i42, .int i43, .int i44, .int i45, .ref b46, .ref b47, .ref b48, .ref b49, .ref b50, .ref b51, .ref b52, .ref b53, .ref b54, .ref b55, .ref b56, .ref b57, .ref b58, .ref b59, .ref b60, .ref b61, .ref b62, .ref b63]))]) rfl [0] rfl rfl (⟨k1.symm, by rw [← k2]⟩) ⟨Nat.le_of_ble_eq_true rfl, Nat.le_of_ble_eq_true rfl⟩ dX12_end_25
    · refine lv_iconst (v := 0) (pc := 17) hx hb dX12_end_17 (by decide) ?_
      exact e_z X hQ hr hW (u := [(h0, .inr (12, [.int 0, .ref b1, .int (nI n0), .int i3, .int i4, .int i5, .ref b6, .ref b7, .ref b8, .ref b9, .ref b10, .ref b11, .ref b12, .ref b13, .ref b14, .ref b15, .ref b16, .ref b17, .int i18, .int i19, .int i20, .ref b21, .ref b22, .ref b23, .ref b24, .ref b25, .ref b26, .int i27, .ref b28, .ref b29, .ref b30, .ref b31, .ref b32, .ref b33, .ref b34, .ref b35, .ref b36, .int i37, .int i38, .int i39, .int i40, .int i41, .int i42, .int i43, .int i44, .int i45, .ref b46, .ref b47, .ref b48, .ref b49, .ref b50, .ref b51, .ref b52, .ref b53, .ref b54, .ref b55, .ref b56, .ref b57, .ref b58, .ref b59, .ref b60, .ref b61, .ref b62, .ref b63]))]) rfl [0] rfl rfl (⟨(ct_out (fun h9 => by first | exact h9.1 c2 | exact c2 h9.2)).1.symm, by rw [(ct_out (fun h9 => by first | exact h9.1 c2 | exact c2 h9.2)).2]⟩) ⟨Nat.le_of_ble_eq_true rfl, Nat.le_of_ble_eq_true rfl⟩ dX12_end_18

set_option maxHeartbeats 4000000 in
set_option maxRecDepth 100000 in
theorem C_X11_endG (l : Launch) (g : GG) (h0 a0 a1 a2 a3 a4 a5 a6 a7 a8 a9 a10 q : Nat) (j11 j12 j13 : Int32) (f0 : Nat → Int32) (n0 : Nat) (pl p0 : Int32) (hn0 : n0 ≤ 400) : MetI l g yX11_end cX11_end 2 (some .boolean) 1 0 0 [.ref h0, .int p0] [(h0, .inr (11, [.ref a0, .ref a1, .ref a2, .ref a3, .ref a4, .ref a5, .ref a6, .ref a7, .ref a8, .ref a9, .ref a10, .int j11, .int j12, .int j13])), (a0, .inr (8, [.ref q, .int (nI n0), .int pl])), (q, .inl (g.2.1 1, 400, .inl f0))] (fun r u => r = ctr n0 p0 ∧ u = [(h0, .inr (11, [.ref a0, .ref a1, .ref a2, .ref a3, .ref a4, .ref a5, .ref a6, .ref a7, .ref a8, .ref a9, .ref a10, .int j11, .int j12, .int j13])), (a0, .inr (8, [.ref q, .int (nI (ctn n0 p0)), .int pl])), (q, .inl (g.2.1 1, 400, .inl f0))]) := by
  refine MetI.of (own := RX11) rfl (by decide) (Nat.le_of_ble_eq_true rfl) ?_
  intro p e s m below meth c A ls args Q hQ X hr hin hW hl
  have hx := X.1
  have hb := X.2.1
  have hl : lv_has ls 2 [(0, .ref h0), (1, .int p0)] := hl
  refine lv_aload_n (pc := 0) hx hb dX11_end_0 rfl (lv_at hl 0 rfl) ?_
  refine r_get X hW 0 ciX11 0 rfl (by decide) m_353 rfl rfl dX11_end_1 ?_
  refine lv_iload_n (pc := 4) hx hb dX11_end_4 rfl (lv_at hl 1 rfl) ?_
  refine c_Vi (pc := 5) (As := [.int p0]) (rest := []) (wr := [(h0, .inr (11, [.ref a0, .ref a1, .ref a2, .ref a3, .ref a4, .ref a5, .ref a6, .ref a7, .ref a8, .ref a9, .ref a10, .int j11, .int j12, .int j13]))]) X hW 1 ciX8 rfl (C_X8_cutG l g a0 q f0 n0 pl p0 hn0) vX11_86 [1, 2] [0] rfl rfl rfl rfl rfl rfl hl.1 rfl (Nat.le_of_ble_eq_true rfl) ⟨Nat.le_of_ble_eq_true rfl, Nat.le_of_ble_eq_true rfl⟩ ⟨Nat.le_of_ble_eq_true rfl, Nat.le_of_ble_eq_true rfl⟩ dX11_end_5 (fun r1 u9 H locs hq hW => ?_)
  obtain ⟨rfl, rfl⟩ := hq
  have hW : WD g A s _ _ [(h0, .inr (11, [.ref a0, .ref a1, .ref a2, .ref a3, .ref a4, .ref a5, .ref a6, .ref a7, .ref a8, .ref a9, .ref a10, .int j11, .int j12, .int j13])), (a0, .inr (8, [.ref q, .int (nI (ctn n0 p0)), .int pl])), (q, .inl (g.2.1 1, 400, .inl f0))] := hW
  exact e_z X hQ hr hW (u := [(h0, .inr (11, [.ref a0, .ref a1, .ref a2, .ref a3, .ref a4, .ref a5, .ref a6, .ref a7, .ref a8, .ref a9, .ref a10, .int j11, .int j12, .int j13])), (a0, .inr (8, [.ref q, .int (nI (ctn n0 p0)), .int pl])), (q, .inl (g.2.1 1, 400, .inl f0))]) (ctr_z _ _) [0, 1, 2] rfl rfl (⟨rfl, rfl⟩) ⟨Nat.le_of_ble_eq_true rfl, Nat.le_of_ble_eq_true rfl⟩ dX11_end_8

/-- what a tape of n bytes answers to five numbers: its new length, or -1 where they don't fit -/
def fdn (n s : Nat) : Nat := if n + s ≤ 400 then n + s else n
def fdr (n s : Nat) : Int32 := if n + s ≤ 400 then nI (n + s) else -1
theorem fdn_le {n s : Nat} (h : n ≤ 400) : fdn n s ≤ 400 := by unfold fdn; split <;> omega
def s5 (p0 p1 p2 p3 p4 : Int32) : Nat := cnt p0 4 + cnt p1 4 + cnt p2 4 + cnt p3 4 + cnt p4 4
/-- .. and to a cut at x -/
def ctr (n : Nat) (x : Int32) : Int32 := if ¬ x < 0 ∧ x ≤ nI n then 1 else 0
def ctn (n : Nat) (x : Int32) : Nat := if ¬ x < 0 ∧ x ≤ nI n then x.toNatClampNeg else n
theorem ct_in {n : Nat} {x : Int32} (hn : n ≤ 400) (h1 : ¬ x < 0) (h2 : x ≤ nI n) : ctr n x = 1 ∧ x = nI (ctn n x) ∧ ctn n x ≤ 400 := by
  obtain ⟨j, hj, rfl⟩ := nI_of2 (n := n) (nI_toInt (by omega)) h1 h2
  unfold ctr ctn
  rw [if_pos ⟨h1, h2⟩, if_pos ⟨h1, h2⟩, nI_clamp (by omega)]
  exact ⟨rfl, rfl, by omega⟩
theorem ct_out {n : Nat} {x : Int32} (h : ¬ (¬ x < 0 ∧ x ≤ nI n)) : ctr n x = 0 ∧ ctn n x = n := ⟨if_neg h, if_neg h⟩
theorem ctr_z (n : Nat) (x : Int32) : narrow .boolean (.int (ctr n x)) = .int (ctr n x) := by unfold ctr; split <;> rfl
theorem dX8_append_41 : decode cX8_append 41 = .ok (.iconst (-1), 1) := by decide +kernel
theorem dX8_append_42 : decode cX8_append 42 = .ok (.ireturn, 1) := by decide +kernel
theorem dX12_feed_42 : decode cX12_feed 42 = .ok (.iconst (-1), 1) := by decide +kernel
theorem dX12_feed_43 : decode cX12_feed 43 = .ok (.ireturn, 1) := by decide +kernel
set_option maxHeartbeats 4000000 in
set_option maxRecDepth 100000 in
theorem C_X8_appendG (l : Launch) (g : GG) (h0 q : Nat) (f0 : Nat → Int32) (n0 : Nat) (pl : Int32) (hn0 : n0 ≤ 400) (p0 p1 p2 p3 p4 : Int32) : MetI l g yX8_append cX8_append 7 (some .int) 1 0 0 [.ref h0, .int p0, .int p1, .int p2, .int p3, .int p4] [(h0, .inr (8, [.ref q, .int (nI n0), .int pl])), (q, .inl (g.2.1 1, 400, .inl f0))] (fun r u => ∃ f : Nat → Int32, r = fdr n0 (s5 p0 p1 p2 p3 p4) ∧ u = [(h0, .inr (8, [.ref q, .int (nI (fdn n0 (s5 p0 p1 p2 p3 p4))), .int pl])), (q, .inl (g.2.1 1, 400, .inl f))]) := by
  refine MetI.of (own := RX8) rfl (by decide) (Nat.le_of_ble_eq_true rfl) ?_
  intro p e s m below meth c A ls args Q hQ X hr hin hW hl
  have hx := X.1
  have hb := X.2.1
  have hl : lv_has ls 7 [(0, .ref h0), (1, .int p0), (2, .int p1), (3, .int p2), (4, .int p3), (5, .int p4)] := hl
  have k0 := cnt_4 p0
  have k1 := cnt_4 p1
  have k2 := cnt_4 p2
  have k3 := cnt_4 p3
  have k4 := cnt_4 p4
  refine lv_iload_n (pc := 0) hx hb dX8_append_0 rfl (lv_at hl 1 rfl) ?_
  refine c_Si (pc := 1) (As := [.int p0]) (rest := []) (wr := [(h0, .inr (8, [.ref q, .int (nI n0), .int pl])), (q, .inl (g.2.1 1, 400, .inl f0))]) X hW (C_X8_bytesIn l g p0) vX8_15 [] [0, 1] rfl rfl rfl rfl rfl rfl hl.1 rfl (Nat.le_of_ble_eq_true rfl) ⟨Nat.le_of_ble_eq_true rfl, Nat.le_of_ble_eq_true rfl⟩ ⟨Nat.le_of_ble_eq_true rfl, Nat.le_of_ble_eq_true rfl⟩ dX8_append_1 (fun r1 u9 H locs hq hW => ?_)
  obtain ⟨rfl, rfl⟩ := hq
  have hW : WD g A s _ _ [(h0, .inr (8, [.ref q, .int (nI n0), .int pl])), (q, .inl (g.2.1 1, 400, .inl f0))] := hW
  refine lv_iload_n (pc := 4) hx hb dX8_append_4 rfl (lv_at hl 2 rfl) ?_
  refine c_Si (pc := 5) (As := [.int p1]) (rest := [.int (nI (cnt p0 4))]) (wr := [(h0, .inr (8, [.ref q, .int (nI n0), .int pl])), (q, .inl (g.2.1 1, 400, .inl f0))]) X hW (C_X8_bytesIn l g p1) vX8_15 [] [0, 1] rfl rfl rfl rfl rfl rfl hl.1 rfl (Nat.le_of_ble_eq_true rfl) ⟨Nat.le_of_ble_eq_true rfl, Nat.le_of_ble_eq_true rfl⟩ ⟨Nat.le_of_ble_eq_true rfl, Nat.le_of_ble_eq_true rfl⟩ dX8_append_5 (fun r2 u9 H locs hq hW => ?_)
  obtain ⟨rfl, rfl⟩ := hq
  have hW : WD g A s _ _ [(h0, .inr (8, [.ref q, .int (nI n0), .int pl])), (q, .inl (g.2.1 1, 400, .inl f0))] := hW
  refine lv_iadd (pc := 8) hx hb dX8_append_8 ?_
  refine lv_topi (fun v3 ev3 => ?_)
  obtain rfl : v3 = nI (cnt p0 4 + cnt p1 4) := ev3.trans (nI_add _ _)
  refine lv_iload_n (pc := 9) hx hb dX8_append_9 rfl (lv_at hl 3 rfl) ?_
  refine c_Si (pc := 10) (As := [.int p2]) (rest := [.int (nI (cnt p0 4 + cnt p1 4))]) (wr := [(h0, .inr (8, [.ref q, .int (nI n0), .int pl])), (q, .inl (g.2.1 1, 400, .inl f0))]) X hW (C_X8_bytesIn l g p2) vX8_15 [] [0, 1] rfl rfl rfl rfl rfl rfl hl.1 rfl (Nat.le_of_ble_eq_true rfl) ⟨Nat.le_of_ble_eq_true rfl, Nat.le_of_ble_eq_true rfl⟩ ⟨Nat.le_of_ble_eq_true rfl, Nat.le_of_ble_eq_true rfl⟩ dX8_append_10 (fun r4 u9 H locs hq hW => ?_)
  obtain ⟨rfl, rfl⟩ := hq
  have hW : WD g A s _ _ [(h0, .inr (8, [.ref q, .int (nI n0), .int pl])), (q, .inl (g.2.1 1, 400, .inl f0))] := hW
  refine lv_iadd (pc := 13) hx hb dX8_append_13 ?_
  refine lv_topi (fun v5 ev5 => ?_)
  obtain rfl : v5 = nI (cnt p0 4 + cnt p1 4 + cnt p2 4) := ev5.trans (nI_add _ _)
  refine lv_iload (pc := 14) hx hb dX8_append_14 (lv_at hl 4 rfl) ?_
  refine c_Si (pc := 16) (As := [.int p3]) (rest := [.int (nI (cnt p0 4 + cnt p1 4 + cnt p2 4))]) (wr := [(h0, .inr (8, [.ref q, .int (nI n0), .int pl])), (q, .inl (g.2.1 1, 400, .inl f0))]) X hW (C_X8_bytesIn l g p3) vX8_15 [] [0, 1] rfl rfl rfl rfl rfl rfl hl.1 rfl (Nat.le_of_ble_eq_true rfl) ⟨Nat.le_of_ble_eq_true rfl, Nat.le_of_ble_eq_true rfl⟩ ⟨Nat.le_of_ble_eq_true rfl, Nat.le_of_ble_eq_true rfl⟩ dX8_append_16 (fun r6 u9 H locs hq hW => ?_)
  obtain ⟨rfl, rfl⟩ := hq
  have hW : WD g A s _ _ [(h0, .inr (8, [.ref q, .int (nI n0), .int pl])), (q, .inl (g.2.1 1, 400, .inl f0))] := hW
  refine lv_iadd (pc := 19) hx hb dX8_append_19 ?_
  refine lv_topi (fun v7 ev7 => ?_)
  obtain rfl : v7 = nI (cnt p0 4 + cnt p1 4 + cnt p2 4 + cnt p3 4) := ev7.trans (nI_add _ _)
  refine lv_iload (pc := 20) hx hb dX8_append_20 (lv_at hl 5 rfl) ?_
  refine c_Si (pc := 22) (As := [.int p4]) (rest := [.int (nI (cnt p0 4 + cnt p1 4 + cnt p2 4 + cnt p3 4))]) (wr := [(h0, .inr (8, [.ref q, .int (nI n0), .int pl])), (q, .inl (g.2.1 1, 400, .inl f0))]) X hW (C_X8_bytesIn l g p4) vX8_15 [] [0, 1] rfl rfl rfl rfl rfl rfl hl.1 rfl (Nat.le_of_ble_eq_true rfl) ⟨Nat.le_of_ble_eq_true rfl, Nat.le_of_ble_eq_true rfl⟩ ⟨Nat.le_of_ble_eq_true rfl, Nat.le_of_ble_eq_true rfl⟩ dX8_append_22 (fun r8 u9 H locs hq hW => ?_)
  obtain ⟨rfl, rfl⟩ := hq
  have hW : WD g A s _ _ [(h0, .inr (8, [.ref q, .int (nI n0), .int pl])), (q, .inl (g.2.1 1, 400, .inl f0))] := hW
  refine lv_iadd (pc := 25) hx hb dX8_append_25 ?_
  refine lv_topi (fun v9 ev9 => ?_)
  obtain rfl : v9 = nI (cnt p0 4 + cnt p1 4 + cnt p2 4 + cnt p3 4 + cnt p4 4) := ev9.trans (nI_add _ _)
  refine lv_istore (lv' := [(6, .int (nI (cnt p0 4 + cnt p1 4 + cnt p2 4 + cnt p3 4 + cnt p4 4))), (0, .ref h0), (1, .int p0), (2, .int p1), (3, .int p2), (4, .int p3), (5, .int p4)]) (pc := 26) hx hb dX8_append_26 hl (by decide) rfl (fun ls hl => ?_)
  refine lv_aload_n (pc := 28) hx hb dX8_append_28 rfl (lv_at hl 1 rfl) ?_
  refine r_get X hW 0 ciX8 1 rfl (by decide) m_37 rfl rfl dX8_append_29 ?_
  refine lv_iload (pc := 32) hx hb dX8_append_32 (lv_at hl 0 rfl) ?_
  refine lv_iadd (pc := 34) hx hb dX8_append_34 ?_
  refine lv_topi (fun v10 ev10 => ?_)
  obtain rfl : v10 = nI (n0 + (cnt p0 4 + cnt p1 4 + cnt p2 4 + cnt p3 4 + cnt p4 4)) := ev10.trans (nI_add _ _)
  refine lv_sipush (v := 400) (pc := 35) hx hb dX8_append_35 (by decide) ?_
  refine lv_icmp_le (tgt := 43) (pc := 38) hx hb dX8_append_38 rfl (fun c11 => ?_) (fun c11 => ?_)
  · have hfit : n0 + (cnt p0 4 + cnt p1 4 + cnt p2 4 + cnt p3 4 + cnt p4 4) ≤ 400 := (nI_leI (by omega) (by decide)).mp c11
    refine lv_aload_n (pc := 43) hx hb dX8_append_43 rfl (lv_at hl 1 rfl) ?_
    refine lv_iload_n (pc := 44) hx hb dX8_append_44 rfl (lv_at hl 2 rfl) ?_
    refine c_Vv (pc := 45) (As := [.int p0]) (rest := []) (wr := []) X hW 0 ciX8 rfl (C_X8_appendNumber l g h0 q f0 n0 pl p0 (by omega)) vX8_23 [0, 1] [] rfl rfl rfl rfl rfl rfl hl.1 rfl (Nat.le_of_ble_eq_true rfl) ⟨Nat.le_of_ble_eq_true rfl, Nat.le_of_ble_eq_true rfl⟩ ⟨Nat.le_of_ble_eq_true rfl, Nat.le_of_ble_eq_true rfl⟩ dX8_append_45 (fun u9 H locs hq hW => ?_)
    obtain ⟨f12, rfl⟩ := hq
    have hW : WD g A s _ _ [(h0, .inr (8, [.ref q, .int (nI (n0 + cnt p0 4)), .int pl])), (q, .inl (g.2.1 1, 400, .inl f12))] := hW
    refine lv_aload_n (pc := 48) hx hb dX8_append_48 rfl (lv_at hl 1 rfl) ?_
    refine lv_iload_n (pc := 49) hx hb dX8_append_49 rfl (lv_at hl 3 rfl) ?_
    refine c_Vv (pc := 50) (As := [.int p1]) (rest := []) (wr := []) X hW 0 ciX8 rfl (C_X8_appendNumber l g h0 q f12 (n0 + cnt p0 4) pl p1 (by omega)) vX8_23 [0, 1] [] rfl rfl rfl rfl rfl rfl hl.1 rfl (Nat.le_of_ble_eq_true rfl) ⟨Nat.le_of_ble_eq_true rfl, Nat.le_of_ble_eq_true rfl⟩ ⟨Nat.le_of_ble_eq_true rfl, Nat.le_of_ble_eq_true rfl⟩ dX8_append_50 (fun u9 H locs hq hW => ?_)
    obtain ⟨f13, rfl⟩ := hq
    have hW : WD g A s _ _ [(h0, .inr (8, [.ref q, .int (nI ((n0 + cnt p0 4) + cnt p1 4)), .int pl])), (q, .inl (g.2.1 1, 400, .inl f13))] := hW
    refine lv_aload_n (pc := 53) hx hb dX8_append_53 rfl (lv_at hl 1 rfl) ?_
    refine lv_iload_n (pc := 54) hx hb dX8_append_54 rfl (lv_at hl 4 rfl) ?_
    refine c_Vv (pc := 55) (As := [.int p2]) (rest := []) (wr := []) X hW 0 ciX8 rfl (C_X8_appendNumber l g h0 q f13 ((n0 + cnt p0 4) + cnt p1 4) pl p2 (by omega)) vX8_23 [0, 1] [] rfl rfl rfl rfl rfl rfl hl.1 rfl (Nat.le_of_ble_eq_true rfl) ⟨Nat.le_of_ble_eq_true rfl, Nat.le_of_ble_eq_true rfl⟩ ⟨Nat.le_of_ble_eq_true rfl, Nat.le_of_ble_eq_true rfl⟩ dX8_append_55 (fun u9 H locs hq hW => ?_)
    obtain ⟨f14, rfl⟩ := hq
    have hW : WD g A s _ _ [(h0, .inr (8, [.ref q, .int (nI (((n0 + cnt p0 4) + cnt p1 4) + cnt p2 4)), .int pl])), (q, .inl (g.2.1 1, 400, .inl f14))] := hW
    refine lv_aload_n (pc := 58) hx hb dX8_append_58 rfl (lv_at hl 1 rfl) ?_
    refine lv_iload (pc := 59) hx hb dX8_append_59 (lv_at hl 5 rfl) ?_
    refine c_Vv (pc := 61) (As := [.int p3]) (rest := []) (wr := []) X hW 0 ciX8 rfl (C_X8_appendNumber l g h0 q f14 (((n0 + cnt p0 4) + cnt p1 4) + cnt p2 4) pl p3 (by omega)) vX8_23 [0, 1] [] rfl rfl rfl rfl rfl rfl hl.1 rfl (Nat.le_of_ble_eq_true rfl) ⟨Nat.le_of_ble_eq_true rfl, Nat.le_of_ble_eq_true rfl⟩ ⟨Nat.le_of_ble_eq_true rfl, Nat.le_of_ble_eq_true rfl⟩ dX8_append_61 (fun u9 H locs hq hW => ?_)
    obtain ⟨f15, rfl⟩ := hq
    have hW : WD g A s _ _ [(h0, .inr (8, [.ref q, .int (nI ((((n0 + cnt p0 4) + cnt p1 4) + cnt p2 4) + cnt p3 4)), .int pl])), (q, .inl (g.2.1 1, 400, .inl f15))] := hW
    refine lv_aload_n (pc := 64) hx hb dX8_append_64 rfl (lv_at hl 1 rfl) ?_
    refine lv_iload (pc := 65) hx hb dX8_append_65 (lv_at hl 6 rfl) ?_
    refine c_Vv (pc := 67) (As := [.int p4]) (rest := []) (wr := []) X hW 0 ciX8 rfl (C_X8_appendNumber l g h0 q f15 ((((n0 + cnt p0 4) + cnt p1 4) + cnt p2 4) + cnt p3 4) pl p4 (by omega)) vX8_23 [0, 1] [] rfl rfl rfl rfl rfl rfl hl.1 rfl (Nat.le_of_ble_eq_true rfl) ⟨Nat.le_of_ble_eq_true rfl, Nat.le_of_ble_eq_true rfl⟩ ⟨Nat.le_of_ble_eq_true rfl, Nat.le_of_ble_eq_true rfl⟩ dX8_append_67 (fun u9 H locs hq hW => ?_)
    obtain ⟨f16, rfl⟩ := hq
    have hW : WD g A s _ _ [(h0, .inr (8, [.ref q, .int (nI (((((n0 + cnt p0 4) + cnt p1 4) + cnt p2 4) + cnt p3 4) + cnt p4 4)), .int pl])), (q, .inl (g.2.1 1, 400, .inl f16))] := hW
    refine lv_aload_n (pc := 70) hx hb dX8_append_70 rfl (lv_at hl 1 rfl) ?_
    refine r_get X hW 0 ciX8 1 rfl (by decide) m_37 rfl rfl dX8_append_71 ?_
    exact e_i X hQ hr hW (u := [(h0, .inr (8, [.ref q, .int (nI (((((n0 + cnt p0 4) + cnt p1 4) + cnt p2 4) + cnt p3 4) + cnt p4 4)), .int pl])), (q, .inl (g.2.1 1, 400, .inl f16))]) [0, 1] rfl rfl (⟨f16, by rw [show fdr n0 (s5 p0 p1 p2 p3 p4) = nI (n0 + (s5 p0 p1 p2 p3 p4)) from if_pos hfit]; simp only [s5, Nat.add_assoc], by rw [show fdn n0 (s5 p0 p1 p2 p3 p4) = n0 + (s5 p0 p1 p2 p3 p4) from if_pos hfit]; simp only [s5, Nat.add_assoc]⟩) ⟨Nat.le_of_ble_eq_true rfl, Nat.le_of_ble_eq_true rfl⟩ dX8_append_74
  · have hfit : ¬ n0 + (cnt p0 4 + cnt p1 4 + cnt p2 4 + cnt p3 4 + cnt p4 4) ≤ 400 := fun q => c11 ((nI_leI (a := n0 + (cnt p0 4 + cnt p1 4 + cnt p2 4 + cnt p3 4 + cnt p4 4)) (b := 400) (by omega) (by decide)).mpr q)
    refine lv_iconst (v := (-1)) (pc := 41) hx hb dX8_append_41 (by decide) ?_
    exact e_i X hQ hr hW (u := [(h0, .inr (8, [.ref q, .int (nI n0), .int pl])), (q, .inl (g.2.1 1, 400, .inl f0))]) [0, 1] rfl rfl (⟨f0, (if_neg hfit).symm, by rw [show fdn n0 (s5 p0 p1 p2 p3 p4) = n0 from if_neg hfit]⟩) ⟨Nat.le_of_ble_eq_true rfl, Nat.le_of_ble_eq_true rfl⟩ dX8_append_42

set_option maxHeartbeats 4000000 in
set_option maxRecDepth 100000 in
theorem C_X8_cutG (l : Launch) (g : GG) (h0 q : Nat) (f0 : Nat → Int32) (n0 : Nat) (pl p0 : Int32) (hn0 : n0 ≤ 400) : MetI l g yX8_cut cX8_cut 2 (some .boolean) 0 0 0 [.ref h0, .int p0] [(h0, .inr (8, [.ref q, .int (nI n0), .int pl])), (q, .inl (g.2.1 1, 400, .inl f0))] (fun r u => r = ctr n0 p0 ∧ u = [(h0, .inr (8, [.ref q, .int (nI (ctn n0 p0)), .int pl])), (q, .inl (g.2.1 1, 400, .inl f0))]) := by
  refine MetI.of (own := RX8) rfl (by decide) (Nat.le_of_ble_eq_true rfl) ?_
  intro p e s m below meth c A ls args Q hQ X hr hin hW hl
  have hx := X.1
  have hb := X.2.1
  have hl : lv_has ls 2 [(0, .ref h0), (1, .int p0)] := hl
  refine lv_iload_n (pc := 0) hx hb dX8_cut_0 rfl (lv_at hl 1 rfl) ?_
  refine lv_if_lt (tgt := 12) (pc := 1) hx hb dX8_cut_1 rfl (fun c1 => ?_) (fun c1 => ?_)
  · refine lv_iconst (v := 0) (pc := 12) hx hb dX8_cut_12 (by decide) ?_
    exact e_z X hQ hr hW (u := [(h0, .inr (8, [.ref q, .int (nI n0), .int pl])), (q, .inl (g.2.1 1, 400, .inl f0))]) rfl [0, 1] rfl rfl (⟨(ct_out (fun h9 => by first | exact h9.1 c1 | exact c1 h9.2)).1.symm, by rw [(ct_out (fun h9 => by first | exact h9.1 c1 | exact c1 h9.2)).2]⟩) ⟨Nat.le_of_ble_eq_true rfl, Nat.le_of_ble_eq_true rfl⟩ dX8_cut_13
  · have hg := c1
    refine lv_iload_n (pc := 4) hx hb dX8_cut_4 rfl (lv_at hl 1 rfl) ?_
    refine lv_aload_n (pc := 5) hx hb dX8_cut_5 rfl (lv_at hl 0 rfl) ?_
    refine r_get X hW 0 ciX8 1 rfl (by decide) m_37 rfl rfl dX8_cut_6 ?_
    refine lv_icmp_le (tgt := 14) (pc := 9) hx hb dX8_cut_9 rfl (fun c2 => ?_) (fun c2 => ?_)
    · obtain ⟨k1, k2, k3⟩ := ct_in hn0 hg c2
      refine lv_aload_n (pc := 14) hx hb dX8_cut_14 rfl (lv_at hl 0 rfl) ?_
      refine lv_iload_n (pc := 15) hx hb dX8_cut_15 rfl (lv_at hl 1 rfl) ?_
      refine r_put (ws' := [(h0, .inr (8, [.ref q, .int p0, .int pl])), (q, .inl (g.2.1 1, 400, .inl f0))]) X hW 0 ciX8 1 rfl (by decide) m_37 rfl rfl rfl rfl (Nat.le_of_ble_eq_true rfl) rfl dX8_cut_16 (fun H locs hW => ?_)
      refine lv_iconst (v := 1) (pc := 19) hx hb dX8_cut_19 (by decide) ?_
      exact e_z X hQ hr hW (u := [(h0, .inr (8, [.ref q, .int p0, .int pl])), (q, .inl (g.2.1 1, 400, .inl f0))]) rfl [0, 1] rfl rfl (⟨k1.symm, by rw [← k2]⟩) ⟨Nat.le_of_ble_eq_true rfl, Nat.le_of_ble_eq_true rfl⟩ dX8_cut_20
    · refine lv_iconst (v := 0) (pc := 12) hx hb dX8_cut_12 (by decide) ?_
      exact e_z X hQ hr hW (u := [(h0, .inr (8, [.ref q, .int (nI n0), .int pl])), (q, .inl (g.2.1 1, 400, .inl f0))]) rfl [0, 1] rfl rfl (⟨(ct_out (fun h9 => by first | exact h9.1 c2 | exact c2 h9.2)).1.symm, by rw [(ct_out (fun h9 => by first | exact h9.1 c2 | exact c2 h9.2)).2]⟩) ⟨Nat.le_of_ble_eq_true rfl, Nat.le_of_ble_eq_true rfl⟩ dX8_cut_13

set_option maxHeartbeats 4000000 in
set_option maxRecDepth 100000 in
theorem C_X12_putG (l : Launch) (g : GG) (h0 b1 b6 b7 b8 b9 b10 b11 b12 b13 b14 b15 b16 b17 b21 b22 b23 b24 b25 b26 b28 b29 b30 b31 b32 b33 b34 b35 b36 b46 b47 b48 b49 b50 b51 b52 b53 b54 b55 b56 b57 b58 b59 b60 b61 b62 b63 : Nat) (i0 i3 i4 i5 i18 i19 i20 i27 i37 i38 i39 i40 i41 i42 i43 i44 i45 : Int32) (f0 : Nat → Int32) (n0 : Nat) (v : Int32) (hn : n0 + cnt v 4 ≤ 400) : MetV l g yX12_put cX12_put 3 none 0 0 0 [.ref h0, .int v] [(h0, .inr (12, [.int i0, .ref b1, .int (nI n0), .int i3, .int i4, .int i5, .ref b6, .ref b7, .ref b8, .ref b9, .ref b10, .ref b11, .ref b12, .ref b13, .ref b14, .ref b15, .ref b16, .ref b17, .int i18, .int i19, .int i20, .ref b21, .ref b22, .ref b23, .ref b24, .ref b25, .ref b26, .int i27, .ref b28, .ref b29, .ref b30, .ref b31, .ref b32, .ref b33, .ref b34, .ref b35, .ref b36, .int i37, .int i38, .int i39, .int i40, .int i41, .int i42, .int i43, .int i44, .int i45, .ref b46, .ref b47, .ref b48, .ref b49, .ref b50, .ref b51, .ref b52, .ref b53, .ref b54, .ref b55, .ref b56, .ref b57, .ref b58, .ref b59, .ref b60, .ref b61, .ref b62, .ref b63])), (b1, .inl (g.2.1 0, 400, .inl f0))] (fun u => ∃ f : Nat → Int32, u = [(h0, .inr (12, [.int i0, .ref b1, .int (nI (n0 + cnt v 4)), .int i3, .int i4, .int i5, .ref b6, .ref b7, .ref b8, .ref b9, .ref b10, .ref b11, .ref b12, .ref b13, .ref b14, .ref b15, .ref b16, .ref b17, .int i18, .int i19, .int i20, .ref b21, .ref b22, .ref b23, .ref b24, .ref b25, .ref b26, .int i27, .ref b28, .ref b29, .ref b30, .ref b31, .ref b32, .ref b33, .ref b34, .ref b35, .ref b36, .int i37, .int i38, .int i39, .int i40, .int i41, .int i42, .int i43, .int i44, .int i45, .ref b46, .ref b47, .ref b48, .ref b49, .ref b50, .ref b51, .ref b52, .ref b53, .ref b54, .ref b55, .ref b56, .ref b57, .ref b58, .ref b59, .ref b60, .ref b61, .ref b62, .ref b63])), (b1, .inl (g.2.1 0, 400, .inl f))]) := by
  refine MetV.of (own := RX12) rfl (by decide) (Nat.le_of_ble_eq_true rfl) ?_
  intro p e s m below meth c A ls args Q hQ X hr hin hW hl
  have hx := X.1
  have hb := X.2.1
  have hl : lv_has ls 3 [(0, .ref h0), (1, .int v)] := hl
  refine lv_bipush (v := 24) (pc := 0) hx hb dX12_put_0 (by decide) ?_
  refine lv_istore_n (lv' := [(2, .int 24), (0, .ref h0), (1, .int v)]) (pc := 2) hx hb dX12_put_2 rfl hl (by decide) rfl (fun ls hl => ?_)
  have loop1 : ∀ (n : Nat) (j : Nat) (k : Nat) (f : Nat → Int32), (5 ≤ n + j) → (j < 5) → (k = n0 + cnt v j) → ∀ (H : Heap) (locs : List Loc) (ls : Array Slot), WD g A s H locs [(h0, .inr (12, [.int i0, .ref b1, .int (nI k), .int i3, .int i4, .int i5, .ref b6, .ref b7, .ref b8, .ref b9, .ref b10, .ref b11, .ref b12, .ref b13, .ref b14, .ref b15, .ref b16, .ref b17, .int i18, .int i19, .int i20, .ref b21, .ref b22, .ref b23, .ref b24, .ref b25, .ref b26, .int i27, .ref b28, .ref b29, .ref b30, .ref b31, .ref b32, .ref b33, .ref b34, .ref b35, .ref b36, .int i37, .int i38, .int i39, .int i40, .int i41, .int i42, .int i43, .int i44, .int i45, .ref b46, .ref b47, .ref b48, .ref b49, .ref b50, .ref b51, .ref b52, .ref b53, .ref b54, .ref b55, .ref b56, .ref b57, .ref b58, .ref b59, .ref b60, .ref b61, .ref b62, .ref b63])), (b1, .inl (g.2.1 0, 400, .inl f))] → lv_has ls 3 [(0, .ref h0), (1, .int v), (2, .int (sh j))] → W p l e (RM 0 0 0) s m args below meth c H locs 0 0 Q (F0 m 3 ls []) := by
    intro n
    induction n with
    | zero =>
      intro j k f hm hj hk
      exact absurd hm (by omega)
    | succ n ih1 =>
      intro j k f hm hj hk H locs ls hW hl
      refine lv_iload_n (pc := 3) hx hb dX12_put_3 rfl (lv_at hl 2 rfl) ?_
      refine lv_if_lt (tgt := 49) (pc := 4) hx hb dX12_put_4 rfl (fun c1 => ?_) (fun c1 => ?_)
      · have hex := c1
        exact e_v X hQ hr hW (u := [(h0, .inr (12, [.int i0, .ref b1, .int (nI k), .int i3, .int i4, .int i5, .ref b6, .ref b7, .ref b8, .ref b9, .ref b10, .ref b11, .ref b12, .ref b13, .ref b14, .ref b15, .ref b16, .ref b17, .int i18, .int i19, .int i20, .ref b21, .ref b22, .ref b23, .ref b24, .ref b25, .ref b26, .int i27, .ref b28, .ref b29, .ref b30, .ref b31, .ref b32, .ref b33, .ref b34, .ref b35, .ref b36, .int i37, .int i38, .int i39, .int i40, .int i41, .int i42, .int i43, .int i44, .int i45, .ref b46, .ref b47, .ref b48, .ref b49, .ref b50, .ref b51, .ref b52, .ref b53, .ref b54, .ref b55, .ref b56, .ref b57, .ref b58, .ref b59, .ref b60, .ref b61, .ref b62, .ref b63])), (b1, .inl (g.2.1 0, 400, .inl f))]) [0, 1] rfl rfl (⟨f, by rw [hk, (sh_neg j hj).mp hex]⟩) ⟨Nat.le_of_ble_eq_true rfl, Nat.le_of_ble_eq_true rfl⟩ dX12_put_49
      · have h4 : j < 4 := by have h9 := (not_congr (sh_neg j hj)).mp c1; omega
        refine lv_iload_n (pc := 7) hx hb dX12_put_7 rfl (lv_at hl 1 rfl) ?_
        refine lv_iload_n (pc := 8) hx hb dX12_put_8 rfl (lv_at hl 2 rfl) ?_
        refine lv_ishr (pc := 9) hx hb dX12_put_9 ?_
        refine lv_topi (fun v2 ev2 => ?_)
        obtain rfl : v2 = v >>> (sh j &&& 31) := ev2.trans (rfl)
        refine lv_sipush (v := 255) (pc := 10) hx hb dX12_put_10 (by decide) ?_
        refine lv_iand (pc := 13) hx hb dX12_put_13 ?_
        refine lv_topi (fun v3 ev3 => ?_)
        obtain rfl : v3 = byx v j := ev3.trans (byz_eq v j h4)
        refine lv_if_ne (tgt := 20) (pc := 14) hx hb dX12_put_14 rfl (fun c4 => ?_) (fun c4 => ?_)
        · have hz0 := c4
          have hlt : k < 400 := by have h8 := cnt_le v (j + 1) (by omega); rw [cnt_s1 hz0] at h8; omega
          refine lv_aload_n (pc := 20) hx hb dX12_put_20 rfl (lv_at hl 0 rfl) ?_
          refine r_get X hW 0 ciX12 1 rfl (by decide) m_1232 rfl rfl dX12_put_21 ?_
          refine lv_aload_n (pc := 24) hx hb dX12_put_24 rfl (lv_at hl 0 rfl) ?_
          refine r_get X hW 0 ciX12 2 rfl (by decide) m_1233 rfl rfl dX12_put_25 ?_
          refine lv_iload_n (pc := 28) hx hb dX12_put_28 rfl (lv_at hl 1 rfl) ?_
          refine lv_iload_n (pc := 29) hx hb dX12_put_29 rfl (lv_at hl 2 rfl) ?_
          refine lv_ishr (pc := 30) hx hb dX12_put_30 ?_
          refine lv_i2b (pc := 31) hx hb dX12_put_31 rfl ?_
          obtain ⟨f5, ef5⟩ : ∃ fz : Nat → Int32, upd f (nI k).toNatClampNeg (vp_nar .byte ((v >>> ((sh j) &&& 31)).toInt8.toInt32)) = fz := ⟨_, rfl⟩
          refine r_bast (ws' := [(h0, .inr (12, [.int i0, .ref b1, .int (nI k), .int i3, .int i4, .int i5, .ref b6, .ref b7, .ref b8, .ref b9, .ref b10, .ref b11, .ref b12, .ref b13, .ref b14, .ref b15, .ref b16, .ref b17, .int i18, .int i19, .int i20, .ref b21, .ref b22, .ref b23, .ref b24, .ref b25, .ref b26, .int i27, .ref b28, .ref b29, .ref b30, .ref b31, .ref b32, .ref b33, .ref b34, .ref b35, .ref b36, .int i37, .int i38, .int i39, .int i40, .int i41, .int i42, .int i43, .int i44, .int i45, .ref b46, .ref b47, .ref b48, .ref b49, .ref b50, .ref b51, .ref b52, .ref b53, .ref b54, .ref b55, .ref b56, .ref b57, .ref b58, .ref b59, .ref b60, .ref b61, .ref b62, .ref b63])), (b1, .inl (g.2.1 0, 400, .inl f5))]) X hW 1 rfl (vp_in_nI hlt (by decide)) ef5 rfl dX12_put_32 (fun H locs hW => ?_)
          refine lv_aload_n (pc := 33) hx hb dX12_put_33 rfl (lv_at hl 0 rfl) ?_
          refine lv_dup (pc := 34) hx hb dX12_put_34 rfl ?_
          refine r_get X hW 0 ciX12 2 rfl (by decide) m_1233 rfl rfl dX12_put_35 ?_
          refine lv_iconst (v := 1) (pc := 38) hx hb dX12_put_38 (by decide) ?_
          refine lv_iadd (pc := 39) hx hb dX12_put_39 ?_
          refine lv_topi (fun v6 ev6 => ?_)
          obtain rfl : v6 = nI (k + 1) := ev6.trans (nI_1 k)
          refine r_put (ws' := [(h0, .inr (12, [.int i0, .ref b1, .int (nI (k + 1)), .int i3, .int i4, .int i5, .ref b6, .ref b7, .ref b8, .ref b9, .ref b10, .ref b11, .ref b12, .ref b13, .ref b14, .ref b15, .ref b16, .ref b17, .int i18, .int i19, .int i20, .ref b21, .ref b22, .ref b23, .ref b24, .ref b25, .ref b26, .int i27, .ref b28, .ref b29, .ref b30, .ref b31, .ref b32, .ref b33, .ref b34, .ref b35, .ref b36, .int i37, .int i38, .int i39, .int i40, .int i41, .int i42, .int i43, .int i44, .int i45, .ref b46, .ref b47, .ref b48, .ref b49, .ref b50, .ref b51, .ref b52, .ref b53, .ref b54, .ref b55, .ref b56, .ref b57, .ref b58, .ref b59, .ref b60, .ref b61, .ref b62, .ref b63])), (b1, .inl (g.2.1 0, 400, .inl f5))]) X hW 0 ciX12 2 rfl (by decide) m_1233 rfl rfl rfl rfl (Nat.le_of_ble_eq_true rfl) rfl dX12_put_40 (fun H locs hW => ?_)
          refine lv_iinc (v := sh (j + 1)) (lv' := [(2, .int (sh (j + 1))), (0, .ref h0), (1, .int v)]) (pc := 43) hx hb dX12_put_43 hl (k := 2) rfl (sh_step j h4) (by decide) rfl (fun ls hl => ?_)
          refine lv_goto (tgt := 3) (pc := 46) hx hb dX12_put_46 rfl ?_
          exact ih1 (j + 1) (k + 1) f5 (by omega) (by omega) (by rw [cnt_s1 hz0]; omega) _ _ _ hW (lv_sub hl [1, 2, 0] rfl)
        · have hz0 := c4
          refine lv_goto (tgt := 43) (pc := 17) hx hb dX12_put_17 rfl ?_
          refine lv_iinc (v := sh (j + 1)) (lv' := [(2, .int (sh (j + 1))), (0, .ref h0), (1, .int v)]) (pc := 43) hx hb dX12_put_43 hl (k := 2) rfl (sh_step j h4) (by decide) rfl (fun ls hl => ?_)
          refine lv_goto (tgt := 3) (pc := 46) hx hb dX12_put_46 rfl ?_
          exact ih1 (j + 1) k f (by omega) (by omega) (by rw [cnt_s0 hz0]; omega) _ _ _ hW (lv_sub hl [1, 2, 0] rfl)
  exact loop1 5 0 n0 f0 (by decide) (by decide) rfl _ _ _ hW (lv_sub hl [1, 2, 0] rfl)

set_option maxHeartbeats 4000000 in
set_option maxRecDepth 100000 in
theorem C_X12_feedG (l : Launch) (g : GG) (h0 b1 b6 b7 b8 b9 b10 b11 b12 b13 b14 b15 b16 b17 b21 b22 b23 b24 b25 b26 b28 b29 b30 b31 b32 b33 b34 b35 b36 b46 b47 b48 b49 b50 b51 b52 b53 b54 b55 b56 b57 b58 b59 b60 b61 b62 b63 : Nat) (i0 i3 i4 i5 i18 i19 i20 i27 i37 i38 i39 i40 i41 i42 i43 i44 i45 : Int32) (f0 : Nat → Int32) (n0 : Nat) (hn0 : n0 ≤ 400) (p0 p1 p2 p3 p4 : Int32) : MetI l g yX12_feed cX12_feed 6 (some .int) 1 0 0 [.ref h0, .int p0, .int p1, .int p2, .int p3, .int p4] [(h0, .inr (12, [.int i0, .ref b1, .int (nI n0), .int i3, .int i4, .int i5, .ref b6, .ref b7, .ref b8, .ref b9, .ref b10, .ref b11, .ref b12, .ref b13, .ref b14, .ref b15, .ref b16, .ref b17, .int i18, .int i19, .int i20, .ref b21, .ref b22, .ref b23, .ref b24, .ref b25, .ref b26, .int i27, .ref b28, .ref b29, .ref b30, .ref b31, .ref b32, .ref b33, .ref b34, .ref b35, .ref b36, .int i37, .int i38, .int i39, .int i40, .int i41, .int i42, .int i43, .int i44, .int i45, .ref b46, .ref b47, .ref b48, .ref b49, .ref b50, .ref b51, .ref b52, .ref b53, .ref b54, .ref b55, .ref b56, .ref b57, .ref b58, .ref b59, .ref b60, .ref b61, .ref b62, .ref b63])), (b1, .inl (g.2.1 0, 400, .inl f0))] (fun r u => ∃ f : Nat → Int32, r = fdr n0 (s5 p0 p1 p2 p3 p4) ∧ u = [(h0, .inr (12, [.int 0, .ref b1, .int (nI (fdn n0 (s5 p0 p1 p2 p3 p4))), .int i3, .int i4, .int i5, .ref b6, .ref b7, .ref b8, .ref b9, .ref b10, .ref b11, .ref b12, .ref b13, .ref b14, .ref b15, .ref b16, .ref b17, .int i18, .int i19, .int i20, .ref b21, .ref b22, .ref b23, .ref b24, .ref b25, .ref b26, .int i27, .ref b28, .ref b29, .ref b30, .ref b31, .ref b32, .ref b33, .ref b34, .ref b35, .ref b36, .int i37, .int i38, .int i39, .int i40, .int i41, .int i42, .int i43, .int i44, .int i45, .ref b46, .ref b47, .ref b48, .ref b49, .ref b50, .ref b51, .ref b52, .ref b53, .ref b54, .ref b55, .ref b56, .ref b57, .ref b58, .ref b59, .ref b60, .ref b61, .ref b62, .ref b63])), (b1, .inl (g.2.1 0, 400, .inl f))]) := by
  refine MetI.of (own := RX12) rfl (by decide) (Nat.le_of_ble_eq_true rfl) ?_
  intro p e s m below meth c A ls args Q hQ X hr hin hW hl
  have hx := X.1
  have hb := X.2.1
  have hl : lv_has ls 6 [(0, .ref h0), (1, .int p0), (2, .int p1), (3, .int p2), (4, .int p3), (5, .int p4)] := hl
  have k0 := cnt_4 p0
  have k1 := cnt_4 p1
  have k2 := cnt_4 p2
  have k3 := cnt_4 p3
  have k4 := cnt_4 p4
  refine lv_aload_n (pc := 0) hx hb dX12_feed_0 rfl (lv_at hl 0 rfl) ?_
  refine lv_iconst (v := 0) (pc := 1) hx hb dX12_feed_1 (by decide) ?_
  refine r_put (ws' := [(h0, .inr (12, [.int 0, .ref b1, .int (nI n0), .int i3, .int i4, .int i5, .ref b6, .ref b7, .ref b8, .ref b9, .ref b10, .ref b11, .ref b12, .ref b13, .ref b14, .ref b15, .ref b16, .ref b17, .int i18, .int i19, .int i20, .ref b21, .ref b22, .ref b23, .ref b24, .ref b25, .ref b26, .int i27, .ref b28, .ref b29, .ref b30, .ref b31, .ref b32, .ref b33, .ref b34, .ref b35, .ref b36, .int i37, .int i38, .int i39, .int i40, .int i41, .int i42, .int i43, .int i44, .int i45, .ref b46, .ref b47, .ref b48, .ref b49, .ref b50, .ref b51, .ref b52, .ref b53, .ref b54, .ref b55, .ref b56, .ref b57, .ref b58, .ref b59, .ref b60, .ref b61, .ref b62, .ref b63])), (b1, .inl (g.2.1 0, 400, .inl f0))]) X hW 0 ciX12 0 rfl (by decide) m_1231 rfl rfl rfl rfl (Nat.le_of_ble_eq_true rfl) rfl dX12_feed_2 (fun H locs hW => ?_)
  refine lv_aload_n (pc := 5) hx hb dX12_feed_5 rfl (lv_at hl 0 rfl) ?_
  refine r_get X hW 0 ciX12 2 rfl (by decide) m_1233 rfl rfl dX12_feed_6 ?_
  refine lv_iload_n (pc := 9) hx hb dX12_feed_9 rfl (lv_at hl 1 rfl) ?_
  refine c_Si (pc := 10) (As := [.int p0]) (rest := [.int (nI n0)]) (wr := [(h0, .inr (12, [.int 0, .ref b1, .int (nI n0), .int i3, .int i4, .int i5, .ref b6, .ref b7, .ref b8, .ref b9, .ref b10, .ref b11, .ref b12, .ref b13, .ref b14, .ref b15, .ref b16, .ref b17, .int i18, .int i19, .int i20, .ref b21, .ref b22, .ref b23, .ref b24, .ref b25, .ref b26, .int i27, .ref b28, .ref b29, .ref b30, .ref b31, .ref b32, .ref b33, .ref b34, .ref b35, .ref b36, .int i37, .int i38, .int i39, .int i40, .int i41, .int i42, .int i43, .int i44, .int i45, .ref b46, .ref b47, .ref b48, .ref b49, .ref b50, .ref b51, .ref b52, .ref b53, .ref b54, .ref b55, .ref b56, .ref b57, .ref b58, .ref b59, .ref b60, .ref b61, .ref b62, .ref b63])), (b1, .inl (g.2.1 0, 400, .inl f0))]) X hW (C_X12_bytesIn l g p0) vX12_166 [] [0, 1] rfl rfl rfl rfl rfl rfl hl.1 rfl (Nat.le_of_ble_eq_true rfl) ⟨Nat.le_of_ble_eq_true rfl, Nat.le_of_ble_eq_true rfl⟩ ⟨Nat.le_of_ble_eq_true rfl, Nat.le_of_ble_eq_true rfl⟩ dX12_feed_10 (fun r1 u9 H locs hq hW => ?_)
  obtain ⟨rfl, rfl⟩ := hq
  have hW : WD g A s _ _ [(h0, .inr (12, [.int 0, .ref b1, .int (nI n0), .int i3, .int i4, .int i5, .ref b6, .ref b7, .ref b8, .ref b9, .ref b10, .ref b11, .ref b12, .ref b13, .ref b14, .ref b15, .ref b16, .ref b17, .int i18, .int i19, .int i20, .ref b21, .ref b22, .ref b23, .ref b24, .ref b25, .ref b26, .int i27, .ref b28, .ref b29, .ref b30, .ref b31, .ref b32, .ref b33, .ref b34, .ref b35, .ref b36, .int i37, .int i38, .int i39, .int i40, .int i41, .int i42, .int i43, .int i44, .int i45, .ref b46, .ref b47, .ref b48, .ref b49, .ref b50, .ref b51, .ref b52, .ref b53, .ref b54, .ref b55, .ref b56, .ref b57, .ref b58, .ref b59, .ref b60, .ref b61, .ref b62, .ref b63])), (b1, .inl (g.2.1 0, 400, .inl f0))] := hW
  refine lv_iadd (pc := 13) hx hb dX12_feed_13 ?_
  refine lv_topi (fun v2 ev2 => ?_)
  obtain rfl : v2 = nI (n0 + cnt p0 4) := ev2.trans (nI_add _ _)
  refine lv_iload_n (pc := 14) hx hb dX12_feed_14 rfl (lv_at hl 2 rfl) ?_
  refine c_Si (pc := 15) (As := [.int p1]) (rest := [.int (nI (n0 + cnt p0 4))]) (wr := [(h0, .inr (12, [.int 0, .ref b1, .int (nI n0), .int i3, .int i4, .int i5, .ref b6, .ref b7, .ref b8, .ref b9, .ref b10, .ref b11, .ref b12, .ref b13, .ref b14, .ref b15, .ref b16, .ref b17, .int i18, .int i19, .int i20, .ref b21, .ref b22, .ref b23, .ref b24, .ref b25, .ref b26, .int i27, .ref b28, .ref b29, .ref b30, .ref b31, .ref b32, .ref b33, .ref b34, .ref b35, .ref b36, .int i37, .int i38, .int i39, .int i40, .int i41, .int i42, .int i43, .int i44, .int i45, .ref b46, .ref b47, .ref b48, .ref b49, .ref b50, .ref b51, .ref b52, .ref b53, .ref b54, .ref b55, .ref b56, .ref b57, .ref b58, .ref b59, .ref b60, .ref b61, .ref b62, .ref b63])), (b1, .inl (g.2.1 0, 400, .inl f0))]) X hW (C_X12_bytesIn l g p1) vX12_166 [] [0, 1] rfl rfl rfl rfl rfl rfl hl.1 rfl (Nat.le_of_ble_eq_true rfl) ⟨Nat.le_of_ble_eq_true rfl, Nat.le_of_ble_eq_true rfl⟩ ⟨Nat.le_of_ble_eq_true rfl, Nat.le_of_ble_eq_true rfl⟩ dX12_feed_15 (fun r3 u9 H locs hq hW => ?_)
  obtain ⟨rfl, rfl⟩ := hq
  have hW : WD g A s _ _ [(h0, .inr (12, [.int 0, .ref b1, .int (nI n0), .int i3, .int i4, .int i5, .ref b6, .ref b7, .ref b8, .ref b9, .ref b10, .ref b11, .ref b12, .ref b13, .ref b14, .ref b15, .ref b16, .ref b17, .int i18, .int i19, .int i20, .ref b21, .ref b22, .ref b23, .ref b24, .ref b25, .ref b26, .int i27, .ref b28, .ref b29, .ref b30, .ref b31, .ref b32, .ref b33, .ref b34, .ref b35, .ref b36, .int i37, .int i38, .int i39, .int i40, .int i41, .int i42, .int i43, .int i44, .int i45, .ref b46, .ref b47, .ref b48, .ref b49, .ref b50, .ref b51, .ref b52, .ref b53, .ref b54, .ref b55, .ref b56, .ref b57, .ref b58, .ref b59, .ref b60, .ref b61, .ref b62, .ref b63])), (b1, .inl (g.2.1 0, 400, .inl f0))] := hW
  refine lv_iadd (pc := 18) hx hb dX12_feed_18 ?_
  refine lv_topi (fun v4 ev4 => ?_)
  obtain rfl : v4 = nI (n0 + cnt p0 4 + cnt p1 4) := ev4.trans (nI_add _ _)
  refine lv_iload_n (pc := 19) hx hb dX12_feed_19 rfl (lv_at hl 3 rfl) ?_
  refine c_Si (pc := 20) (As := [.int p2]) (rest := [.int (nI (n0 + cnt p0 4 + cnt p1 4))]) (wr := [(h0, .inr (12, [.int 0, .ref b1, .int (nI n0), .int i3, .int i4, .int i5, .ref b6, .ref b7, .ref b8, .ref b9, .ref b10, .ref b11, .ref b12, .ref b13, .ref b14, .ref b15, .ref b16, .ref b17, .int i18, .int i19, .int i20, .ref b21, .ref b22, .ref b23, .ref b24, .ref b25, .ref b26, .int i27, .ref b28, .ref b29, .ref b30, .ref b31, .ref b32, .ref b33, .ref b34, .ref b35, .ref b36, .int i37, .int i38, .int i39, .int i40, .int i41, .int i42, .int i43, .int i44, .int i45, .ref b46, .ref b47, .ref b48, .ref b49, .ref b50, .ref b51, .ref b52, .ref b53, .ref b54, .ref b55, .ref b56, .ref b57, .ref b58, .ref b59, .ref b60, .ref b61, .ref b62, .ref b63])), (b1, .inl (g.2.1 0, 400, .inl f0))]) X hW (C_X12_bytesIn l g p2) vX12_166 [] [0, 1] rfl rfl rfl rfl rfl rfl hl.1 rfl (Nat.le_of_ble_eq_true rfl) ⟨Nat.le_of_ble_eq_true rfl, Nat.le_of_ble_eq_true rfl⟩ ⟨Nat.le_of_ble_eq_true rfl, Nat.le_of_ble_eq_true rfl⟩ dX12_feed_20 (fun r5 u9 H locs hq hW => ?_)
  obtain ⟨rfl, rfl⟩ := hq
  have hW : WD g A s _ _ [(h0, .inr (12, [.int 0, .ref b1, .int (nI n0), .int i3, .int i4, .int i5, .ref b6, .ref b7, .ref b8, .ref b9, .ref b10, .ref b11, .ref b12, .ref b13, .ref b14, .ref b15, .ref b16, .ref b17, .int i18, .int i19, .int i20, .ref b21, .ref b22, .ref b23, .ref b24, .ref b25, .ref b26, .int i27, .ref b28, .ref b29, .ref b30, .ref b31, .ref b32, .ref b33, .ref b34, .ref b35, .ref b36, .int i37, .int i38, .int i39, .int i40, .int i41, .int i42, .int i43, .int i44, .int i45, .ref b46, .ref b47, .ref b48, .ref b49, .ref b50, .ref b51, .ref b52, .ref b53, .ref b54, .ref b55, .ref b56, .ref b57, .ref b58, .ref b59, .ref b60, .ref b61, .ref b62, .ref b63])), (b1, .inl (g.2.1 0, 400, .inl f0))] := hW
  refine lv_iadd (pc := 23) hx hb dX12_feed_23 ?_
  refine lv_topi (fun v6 ev6 => ?_)
  obtain rfl : v6 = nI (n0 + cnt p0 4 + cnt p1 4 + cnt p2 4) := ev6.trans (nI_add _ _)
  refine lv_iload (pc := 24) hx hb dX12_feed_24 (lv_at hl 4 rfl) ?_
  refine c_Si (pc := 26) (As := [.int p3]) (rest := [.int (nI (n0 + cnt p0 4 + cnt p1 4 + cnt p2 4))]) (wr := [(h0, .inr (12, [.int 0, .ref b1, .int (nI n0), .int i3, .int i4, .int i5, .ref b6, .ref b7, .ref b8, .ref b9, .ref b10, .ref b11, .ref b12, .ref b13, .ref b14, .ref b15, .ref b16, .ref b17, .int i18, .int i19, .int i20, .ref b21, .ref b22, .ref b23, .ref b24, .ref b25, .ref b26, .int i27, .ref b28, .ref b29, .ref b30, .ref b31, .ref b32, .ref b33, .ref b34, .ref b35, .ref b36, .int i37, .int i38, .int i39, .int i40, .int i41, .int i42, .int i43, .int i44, .int i45, .ref b46, .ref b47, .ref b48, .ref b49, .ref b50, .ref b51, .ref b52, .ref b53, .ref b54, .ref b55, .ref b56, .ref b57, .ref b58, .ref b59, .ref b60, .ref b61, .ref b62, .ref b63])), (b1, .inl (g.2.1 0, 400, .inl f0))]) X hW (C_X12_bytesIn l g p3) vX12_166 [] [0, 1] rfl rfl rfl rfl rfl rfl hl.1 rfl (Nat.le_of_ble_eq_true rfl) ⟨Nat.le_of_ble_eq_true rfl, Nat.le_of_ble_eq_true rfl⟩ ⟨Nat.le_of_ble_eq_true rfl, Nat.le_of_ble_eq_true rfl⟩ dX12_feed_26 (fun r7 u9 H locs hq hW => ?_)
  obtain ⟨rfl, rfl⟩ := hq
  have hW : WD g A s _ _ [(h0, .inr (12, [.int 0, .ref b1, .int (nI n0), .int i3, .int i4, .int i5, .ref b6, .ref b7, .ref b8, .ref b9, .ref b10, .ref b11, .ref b12, .ref b13, .ref b14, .ref b15, .ref b16, .ref b17, .int i18, .int i19, .int i20, .ref b21, .ref b22, .ref b23, .ref b24, .ref b25, .ref b26, .int i27, .ref b28, .ref b29, .ref b30, .ref b31, .ref b32, .ref b33, .ref b34, .ref b35, .ref b36, .int i37, .int i38, .int i39, .int i40, .int i41, .int i42, .int i43, .int i44, .int i45, .ref b46, .ref b47, .ref b48, .ref b49, .ref b50, .ref b51, .ref b52, .ref b53, .ref b54, .ref b55, .ref b56, .ref b57, .ref b58, .ref b59, .ref b60, .ref b61, .ref b62, .ref b63])), (b1, .inl (g.2.1 0, 400, .inl f0))] := hW
  refine lv_iadd (pc := 29) hx hb dX12_feed_29 ?_
  refine lv_topi (fun v8 ev8 => ?_)
  obtain rfl : v8 = nI (n0 + cnt p0 4 + cnt p1 4 + cnt p2 4 + cnt p3 4) := ev8.trans (nI_add _ _)
  refine lv_iload (pc := 30) hx hb dX12_feed_30 (lv_at hl 5 rfl) ?_
  refine c_Si (pc := 32) (As := [.int p4]) (rest := [.int (nI (n0 + cnt p0 4 + cnt p1 4 + cnt p2 4 + cnt p3 4))]) (wr := [(h0, .inr (12, [.int 0, .ref b1, .int (nI n0), .int i3, .int i4, .int i5, .ref b6, .ref b7, .ref b8, .ref b9, .ref b10, .ref b11, .ref b12, .ref b13, .ref b14, .ref b15, .ref b16, .ref b17, .int i18, .int i19, .int i20, .ref b21, .ref b22, .ref b23, .ref b24, .ref b25, .ref b26, .int i27, .ref b28, .ref b29, .ref b30, .ref b31, .ref b32, .ref b33, .ref b34, .ref b35, .ref b36, .int i37, .int i38, .int i39, .int i40, .int i41, .int i42, .int i43, .int i44, .int i45, .ref b46, .ref b47, .ref b48, .ref b49, .ref b50, .ref b51, .ref b52, .ref b53, .ref b54, .ref b55, .ref b56, .ref b57, .ref b58, .ref b59, .ref b60, .ref b61, .ref b62, .ref b63])), (b1, .inl (g.2.1 0, 400, .inl f0))]) X hW (C_X12_bytesIn l g p4) vX12_166 [] [0, 1] rfl rfl rfl rfl rfl rfl hl.1 rfl (Nat.le_of_ble_eq_true rfl) ⟨Nat.le_of_ble_eq_true rfl, Nat.le_of_ble_eq_true rfl⟩ ⟨Nat.le_of_ble_eq_true rfl, Nat.le_of_ble_eq_true rfl⟩ dX12_feed_32 (fun r9 u9 H locs hq hW => ?_)
  obtain ⟨rfl, rfl⟩ := hq
  have hW : WD g A s _ _ [(h0, .inr (12, [.int 0, .ref b1, .int (nI n0), .int i3, .int i4, .int i5, .ref b6, .ref b7, .ref b8, .ref b9, .ref b10, .ref b11, .ref b12, .ref b13, .ref b14, .ref b15, .ref b16, .ref b17, .int i18, .int i19, .int i20, .ref b21, .ref b22, .ref b23, .ref b24, .ref b25, .ref b26, .int i27, .ref b28, .ref b29, .ref b30, .ref b31, .ref b32, .ref b33, .ref b34, .ref b35, .ref b36, .int i37, .int i38, .int i39, .int i40, .int i41, .int i42, .int i43, .int i44, .int i45, .ref b46, .ref b47, .ref b48, .ref b49, .ref b50, .ref b51, .ref b52, .ref b53, .ref b54, .ref b55, .ref b56, .ref b57, .ref b58, .ref b59, .ref b60, .ref b61, .ref b62, .ref b63])), (b1, .inl (g.2.1 0, 400, .inl f0))] := hW
  refine lv_iadd (pc := 35) hx hb dX12_feed_35 ?_
  refine lv_topi (fun v10 ev10 => ?_)
  obtain rfl : v10 = nI (n0 + cnt p0 4 + cnt p1 4 + cnt p2 4 + cnt p3 4 + cnt p4 4) := ev10.trans (nI_add _ _)
  refine lv_sipush (v := 400) (pc := 36) hx hb dX12_feed_36 (by decide) ?_
  refine lv_icmp_le (tgt := 44) (pc := 39) hx hb dX12_feed_39 rfl (fun c11 => ?_) (fun c11 => ?_)
  · have hfit : n0 + (cnt p0 4 + cnt p1 4 + cnt p2 4 + cnt p3 4 + cnt p4 4) ≤ 400 := by have := (nI_leI (a := n0 + cnt p0 4 + cnt p1 4 + cnt p2 4 + cnt p3 4 + cnt p4 4) (b := 400) (by omega) (by decide)).mp c11; omega
    refine lv_aload_n (pc := 44) hx hb dX12_feed_44 rfl (lv_at hl 0 rfl) ?_
    refine lv_iload_n (pc := 45) hx hb dX12_feed_45 rfl (lv_at hl 1 rfl) ?_
    refine c_Vv (pc := 46) (As := [.int p0]) (rest := []) (wr := []) X hW 0 ciX12 rfl (C_X12_putG l g h0 b1 b6 b7 b8 b9 b10 b11 b12 b13 b14 b15 b16 b17 b21 b22 b23 b24 b25 b26 b28 b29 b30 b31 b32 b33 b34 b35 b36 b46 b47 b48 b49 b50 b51 b52 b53 b54 b55 b56 b57 b58 b59 b60 b61 b62 b63 0 i3 i4 i5 i18 i19 i20 i27 i37 i38 i39 i40 i41 i42 i43 i44 i45 f0 n0 p0 (by omega)) vX12_170 [0, 1] [] rfl rfl rfl rfl rfl rfl hl.1 rfl (Nat.le_of_ble_eq_true rfl) ⟨Nat.le_of_ble_eq_true rfl, Nat.le_of_ble_eq_true rfl⟩ ⟨Nat.le_of_ble_eq_true rfl, Nat.le_of_ble_eq_true rfl⟩ dX12_feed_46 (fun u9 H locs hq hW => ?_)
    obtain ⟨f12, rfl⟩ := hq
    have hW : WD g A s _ _ [(h0, .inr (12, [.int 0, .ref b1, .int (nI (n0 + cnt p0 4)), .int i3, .int i4, .int i5, .ref b6, .ref b7, .ref b8, .ref b9, .ref b10, .ref b11, .ref b12, .ref b13, .ref b14, .ref b15, .ref b16, .ref b17, .int i18, .int i19, .int i20, .ref b21, .ref b22, .ref b23, .ref b24, .ref b25, .ref b26, .int i27, .ref b28, .ref b29, .ref b30, .ref b31, .ref b32, .ref b33, .ref b34, .ref b35, .ref b36, .int i37, .int i38, .int i39, .int i40, .int i41, .int i42, .int i43, .int i44, .int i45, .ref b46, .ref b47, .ref b48, .ref b49, .ref b50, .ref b51, .ref b52, .ref b53, .ref b54, .ref b55, .ref b56, .ref b57, .ref b58, .ref b59, .ref b60, .ref b61, .ref b62, .ref b63])), (b1, .inl (g.2.1 0, 400, .inl f12))] := hW
    refine lv_aload_n (pc := 49) hx hb dX12_feed_49 rfl (lv_at hl 0 rfl) ?_
    refine lv_iload_n (pc := 50) hx hb dX12_feed_50 rfl (lv_at hl 2 rfl) ?_
    refine c_Vv (pc := 51) (As := [.int p1]) (rest := []) (wr := []) X hW 0 ciX12 rfl (C_X12_putG l g h0 b1 b6 b7 b8 b9 b10 b11 b12 b13 b14 b15 b16 b17 b21 b22 b23 b24 b25 b26 b28 b29 b30 b31 b32 b33 b34 b35 b36 b46 b47 b48 b49 b50 b51 b52 b53 b54 b55 b56 b57 b58 b59 b60 b61 b62 b63 0 i3 i4 i5 i18 i19 i20 i27 i37 i38 i39 i40 i41 i42 i43 i44 i45 f12 (n0 + cnt p0 4) p1 (by omega)) vX12_170 [0, 1] [] rfl rfl rfl rfl rfl rfl hl.1 rfl (Nat.le_of_ble_eq_true rfl) ⟨Nat.le_of_ble_eq_true rfl, Nat.le_of_ble_eq_true rfl⟩ ⟨Nat.le_of_ble_eq_true rfl, Nat.le_of_ble_eq_true rfl⟩ dX12_feed_51 (fun u9 H locs hq hW => ?_)
    obtain ⟨f13, rfl⟩ := hq
    have hW : WD g A s _ _ [(h0, .inr (12, [.int 0, .ref b1, .int (nI ((n0 + cnt p0 4) + cnt p1 4)), .int i3, .int i4, .int i5, .ref b6, .ref b7, .ref b8, .ref b9, .ref b10, .ref b11, .ref b12, .ref b13, .ref b14, .ref b15, .ref b16, .ref b17, .int i18, .int i19, .int i20, .ref b21, .ref b22, .ref b23, .ref b24, .ref b25, .ref b26, .int i27, .ref b28, .ref b29, .ref b30, .ref b31, .ref b32, .ref b33, .ref b34, .ref b35, .ref b36, .int i37, .int i38, .int i39, .int i40, .int i41, .int i42, .int i43, .int i44, .int i45, .ref b46, .ref b47, .ref b48, .ref b49, .ref b50, .ref b51, .ref b52, .ref b53, .ref b54, .ref b55, .ref b56, .ref b57, .ref b58, .ref b59, .ref b60, .ref b61, .ref b62, .ref b63])), (b1, .inl (g.2.1 0, 400, .inl f13))] := hW
    refine lv_aload_n (pc := 54) hx hb dX12_feed_54 rfl (lv_at hl 0 rfl) ?_
    refine lv_iload_n (pc := 55) hx hb dX12_feed_55 rfl (lv_at hl 3 rfl) ?_
    refine c_Vv (pc := 56) (As := [.int p2]) (rest := []) (wr := []) X hW 0 ciX12 rfl (C_X12_putG l g h0 b1 b6 b7 b8 b9 b10 b11 b12 b13 b14 b15 b16 b17 b21 b22 b23 b24 b25 b26 b28 b29 b30 b31 b32 b33 b34 b35 b36 b46 b47 b48 b49 b50 b51 b52 b53 b54 b55 b56 b57 b58 b59 b60 b61 b62 b63 0 i3 i4 i5 i18 i19 i20 i27 i37 i38 i39 i40 i41 i42 i43 i44 i45 f13 ((n0 + cnt p0 4) + cnt p1 4) p2 (by omega)) vX12_170 [0, 1] [] rfl rfl rfl rfl rfl rfl hl.1 rfl (Nat.le_of_ble_eq_true rfl) ⟨Nat.le_of_ble_eq_true rfl, Nat.le_of_ble_eq_true rfl⟩ ⟨Nat.le_of_ble_eq_true rfl, Nat.le_of_ble_eq_true rfl⟩ dX12_feed_56 (fun u9 H locs hq hW => ?_)
    obtain ⟨f14, rfl⟩ := hq
    have hW : WD g A s _ _ [(h0, .inr (12, [.int 0, .ref b1, .int (nI (((n0 + cnt p0 4) + cnt p1 4) + cnt p2 4)), .int i3, .int i4, .int i5, .ref b6, .ref b7, .ref b8, .ref b9, .ref b10, .ref b11, .ref b12, .ref b13, .ref b14, .ref b15, .ref b16, .ref b17, .int i18, .int i19, .int i20, .ref b21, .ref b22, .ref b23, .ref b24, .ref b25, .ref b26, .int i27, .ref b28, .ref b29, .ref b30, .ref b31, .ref b32, .ref b33, .ref b34, .ref b35, .ref b36, .int i37, .int i38, .int i39, .int i40, .int i41, .int i42, .int i43, .int i44, .int i45, .ref b46, .ref b47, .ref b48, .ref b49, .ref b50, .ref b51, .ref b52, .ref b53, .ref b54, .ref b55, .ref b56, .ref b57, .ref b58, .ref b59, .ref b60, .ref b61, .ref b62, .ref b63])), (b1, .inl (g.2.1 0, 400, .inl f14))] := hW
    refine lv_aload_n (pc := 59) hx hb dX12_feed_59 rfl (lv_at hl 0 rfl) ?_
    refine lv_iload (pc := 60) hx hb dX12_feed_60 (lv_at hl 4 rfl) ?_
    refine c_Vv (pc := 62) (As := [.int p3]) (rest := []) (wr := []) X hW 0 ciX12 rfl (C_X12_putG l g h0 b1 b6 b7 b8 b9 b10 b11 b12 b13 b14 b15 b16 b17 b21 b22 b23 b24 b25 b26 b28 b29 b30 b31 b32 b33 b34 b35 b36 b46 b47 b48 b49 b50 b51 b52 b53 b54 b55 b56 b57 b58 b59 b60 b61 b62 b63 0 i3 i4 i5 i18 i19 i20 i27 i37 i38 i39 i40 i41 i42 i43 i44 i45 f14 (((n0 + cnt p0 4) + cnt p1 4) + cnt p2 4) p3 (by omega)) vX12_170 [0, 1] [] rfl rfl rfl rfl rfl rfl hl.1 rfl (Nat.le_of_ble_eq_true rfl) ⟨Nat.le_of_ble_eq_true rfl, Nat.le_of_ble_eq_true rfl⟩ ⟨Nat.le_of_ble_eq_true rfl, Nat.le_of_ble_eq_true rfl⟩ dX12_feed_62 (fun u9 H locs hq hW => ?_)
    obtain ⟨f15, rfl⟩ := hq
    have hW : WD g A s _ _ [(h0, .inr (12, [.int 0, .ref b1, .int (nI ((((n0 + cnt p0 4) + cnt p1 4) + cnt p2 4) + cnt p3 4)), .int i3, .int i4, .int i5, .ref b6, .ref b7, .ref b8, .ref b9, .ref b10, .ref b11, .ref b12, .ref b13, .ref b14, .ref b15, .ref b16, .ref b17, .int i18, .int i19, .int i20, .ref b21, .ref b22, .ref b23, .ref b24, .ref b25, .ref b26, .int i27, .ref b28, .ref b29, .ref b30, .ref b31, .ref b32, .ref b33, .ref b34, .ref b35, .ref b36, .int i37, .int i38, .int i39, .int i40, .int i41, .int i42, .int i43, .int i44, .int i45, .ref b46, .ref b47, .ref b48, .ref b49, .ref b50, .ref b51, .ref b52, .ref b53, .ref b54, .ref b55, .ref b56, .ref b57, .ref b58, .ref b59, .ref b60, .ref b61, .ref b62, .ref b63])), (b1, .inl (g.2.1 0, 400, .inl f15))] := hW
    refine lv_aload_n (pc := 65) hx hb dX12_feed_65 rfl (lv_at hl 0 rfl) ?_
    refine lv_iload (pc := 66) hx hb dX12_feed_66 (lv_at hl 5 rfl) ?_
    refine c_Vv (pc := 68) (As := [.int p4]) (rest := []) (wr := []) X hW 0 ciX12 rfl (C_X12_putG l g h0 b1 b6 b7 b8 b9 b10 b11 b12 b13 b14 b15 b16 b17 b21 b22 b23 b24 b25 b26 b28 b29 b30 b31 b32 b33 b34 b35 b36 b46 b47 b48 b49 b50 b51 b52 b53 b54 b55 b56 b57 b58 b59 b60 b61 b62 b63 0 i3 i4 i5 i18 i19 i20 i27 i37 i38 i39 i40 i41 i42 i43 i44 i45 f15 ((((n0 + cnt p0 4) + cnt p1 4) + cnt p2 4) + cnt p3 4) p4 (by omega)) vX12_170 [0, 1] [] rfl rfl rfl rfl rfl rfl hl.1 rfl (Nat.le_of_ble_eq_true rfl) ⟨Nat.le_of_ble_eq_true rfl, Nat.le_of_ble_eq_true rfl⟩ ⟨Nat.le_of_ble_eq_true rfl, Nat.le_of_ble_eq_true rfl⟩ dX12_feed_68 (fun u9 H locs hq hW => ?_)
    obtain ⟨f16, rfl⟩ := hq
    have hW : WD g A s _ _ [(h0, .inr (12, [.int 0, .ref b1, .int (nI (((((n0 + cnt p0 4) + cnt p1 4) + cnt p2 4) + cnt p3 4) + cnt p4 4)), .int i3, .int i4, .int i5, .ref b6, .ref b7, .ref b8, .ref b9, .ref b10, .ref b11, .ref b12, .ref b13, .ref b14, .ref b15, .ref b16, .ref b17, .int i18, .int i19, .int i20, .ref b21, .ref b22, .ref b23, .ref b24, .ref b25, .ref b26, .int i27, .ref b28, .ref b29, .ref b30, .ref b31, .ref b32, .ref b33, .ref b34, .ref b35, .ref b36, .int i37, .int i38, .int i39, .int i40, .int i41, .int i42, .int i43, .int i44, .int i45, .ref b46, .ref b47, .ref b48, .ref b49, .ref b50, .ref b51, .ref b52, .ref b53, .ref b54, .ref b55, .ref b56, .ref b57, .ref b58, .ref b59, .ref b60, .ref b61, .ref b62, .ref b63])), (b1, .inl (g.2.1 0, 400, .inl f16))] := hW
    refine lv_aload_n (pc := 71) hx hb dX12_feed_71 rfl (lv_at hl 0 rfl) ?_
    refine r_get X hW 0 ciX12 2 rfl (by decide) m_1233 rfl rfl dX12_feed_72 ?_
    exact e_i X hQ hr hW (u := [(h0, .inr (12, [.int 0, .ref b1, .int (nI (((((n0 + cnt p0 4) + cnt p1 4) + cnt p2 4) + cnt p3 4) + cnt p4 4)), .int i3, .int i4, .int i5, .ref b6, .ref b7, .ref b8, .ref b9, .ref b10, .ref b11, .ref b12, .ref b13, .ref b14, .ref b15, .ref b16, .ref b17, .int i18, .int i19, .int i20, .ref b21, .ref b22, .ref b23, .ref b24, .ref b25, .ref b26, .int i27, .ref b28, .ref b29, .ref b30, .ref b31, .ref b32, .ref b33, .ref b34, .ref b35, .ref b36, .int i37, .int i38, .int i39, .int i40, .int i41, .int i42, .int i43, .int i44, .int i45, .ref b46, .ref b47, .ref b48, .ref b49, .ref b50, .ref b51, .ref b52, .ref b53, .ref b54, .ref b55, .ref b56, .ref b57, .ref b58, .ref b59, .ref b60, .ref b61, .ref b62, .ref b63])), (b1, .inl (g.2.1 0, 400, .inl f16))]) [0, 1] rfl rfl (⟨f16, by rw [show fdr n0 (s5 p0 p1 p2 p3 p4) = nI (n0 + (s5 p0 p1 p2 p3 p4)) from if_pos hfit]; simp only [s5, Nat.add_assoc], by rw [show fdn n0 (s5 p0 p1 p2 p3 p4) = n0 + (s5 p0 p1 p2 p3 p4) from if_pos hfit]; simp only [s5, Nat.add_assoc]⟩) ⟨Nat.le_of_ble_eq_true rfl, Nat.le_of_ble_eq_true rfl⟩ dX12_feed_75
  · have hfit : ¬ n0 + (cnt p0 4 + cnt p1 4 + cnt p2 4 + cnt p3 4 + cnt p4 4) ≤ 400 := fun q => c11 ((nI_leI (a := n0 + cnt p0 4 + cnt p1 4 + cnt p2 4 + cnt p3 4 + cnt p4 4) (b := 400) (by omega) (by decide)).mpr (by omega))
    refine lv_iconst (v := (-1)) (pc := 42) hx hb dX12_feed_42 (by decide) ?_
    exact e_i X hQ hr hW (u := [(h0, .inr (12, [.int 0, .ref b1, .int (nI n0), .int i3, .int i4, .int i5, .ref b6, .ref b7, .ref b8, .ref b9, .ref b10, .ref b11, .ref b12, .ref b13, .ref b14, .ref b15, .ref b16, .ref b17, .int i18, .int i19, .int i20, .ref b21, .ref b22, .ref b23, .ref b24, .ref b25, .ref b26, .int i27, .ref b28, .ref b29, .ref b30, .ref b31, .ref b32, .ref b33, .ref b34, .ref b35, .ref b36, .int i37, .int i38, .int i39, .int i40, .int i41, .int i42, .int i43, .int i44, .int i45, .ref b46, .ref b47, .ref b48, .ref b49, .ref b50, .ref b51, .ref b52, .ref b53, .ref b54, .ref b55, .ref b56, .ref b57, .ref b58, .ref b59, .ref b60, .ref b61, .ref b62, .ref b63])), (b1, .inl (g.2.1 0, 400, .inl f0))]) [0, 1] rfl rfl (⟨f0, (if_neg hfit).symm, by rw [show fdn n0 (s5 p0 p1 p2 p3 p4) = n0 from if_neg hfit]⟩) ⟨Nat.le_of_ble_eq_true rfl, Nat.le_of_ble_eq_true rfl⟩ dX12_feed_43

set_option maxHeartbeats 4000000 in
set_option maxRecDepth 100000 in
theorem C_X12_endG (l : Launch) (g : GG) (h0 b1 b6 b7 b8 b9 b10 b11 b12 b13 b14 b15 b16 b17 b21 b22 b23 b24 b25 b26 b28 b29 b30 b31 b32 b33 b34 b35 b36 b46 b47 b48 b49 b50 b51 b52 b53 b54 b55 b56 b57 b58 b59 b60 b61 b62 b63 : Nat) (i0 i3 i4 i5 i18 i19 i20 i27 i37 i38 i39 i40 i41 i42 i43 i44 i45 : Int32) (n0 : Nat) (p0 : Int32) (hn0 : n0 ≤ 400) : MetI l g yX12_end cX12_end 2 (some .boolean) 0 0 0 [.ref h0, .int p0] [(h0, .inr (12, [.int i0, .ref b1, .int (nI n0), .int i3, .int i4, .int i5, .ref b6, .ref b7, .ref b8, .ref b9, .ref b10, .ref b11, .ref b12, .ref b13, .ref b14, .ref b15, .ref b16, .ref b17, .int i18, .int i19, .int i20, .ref b21, .ref b22, .ref b23, .ref b24, .ref b25, .ref b26, .int i27, .ref b28, .ref b29, .ref b30, .ref b31, .ref b32, .ref b33, .ref b34, .ref b35, .ref b36, .int i37, .int i38, .int i39, .int i40, .int i41, .int i42, .int i43, .int i44, .int i45, .ref b46, .ref b47, .ref b48, .ref b49, .ref b50, .ref b51, .ref b52, .ref b53, .ref b54, .ref b55, .ref b56, .ref b57, .ref b58, .ref b59, .ref b60, .ref b61, .ref b62, .ref b63]))] (fun r u => r = ctr n0 p0 ∧ u = [(h0, .inr (12, [.int 0, .ref b1, .int (nI (ctn n0 p0)), .int i3, .int i4, .int i5, .ref b6, .ref b7, .ref b8, .ref b9, .ref b10, .ref b11, .ref b12, .ref b13, .ref b14, .ref b15, .ref b16, .ref b17, .int i18, .int i19, .int i20, .ref b21, .ref b22, .ref b23, .ref b24, .ref b25, .ref b26, .int i27, .ref b28, .ref b29, .ref b30, .ref b31, .ref b32, .ref b33, .ref b34, .ref b35, .ref b36, .int i37, .int i38, .int i39, .int i40, .int i41, .int i42, .int i43, .int i44, .int i45, .ref b46, .ref b47, .ref b48, .ref b49, .ref b50, .ref b51, .ref b52, .ref b53, .ref b54, .ref b55, .ref b56, .ref b57, .ref b58, .ref b59, .ref b60, .ref b61, .ref b62, .ref b63]))]) := by
  refine MetI.of (own := RX12) rfl (by decide) (Nat.le_of_ble_eq_true rfl) ?_
  intro p e s m below meth c A ls args Q hQ X hr hin hW hl
  have hx := X.1
  have hb := X.2.1
  have hl : lv_has ls 2 [(0, .ref h0), (1, .int p0)] := hl
  refine lv_aload_n (pc := 0) hx hb dX12_end_0 rfl (lv_at hl 0 rfl) ?_
  refine lv_iconst (v := 0) (pc := 1) hx hb dX12_end_1 (by decide) ?_
  refine r_put (ws' := [(h0, .inr (12, [.int 0, .ref b1, .int (nI n0), .int i3, .int i4, .int i5, .ref b6, .ref b7, .ref b8, .ref b9, .ref b10, .ref b11, .ref b12, .ref b13, .ref b14, .ref b15, .ref b16, .ref b17, .int i18, .int i19, .int i20, .ref b21, .ref b22, .ref b23, .ref b24, .ref b25, .ref b26, .int i27, .ref b28, .ref b29, .ref b30, .ref b31, .ref b32, .ref b33, .ref b34, .ref b35, .ref b36, .int i37, .int i38, .int i39, .int i40, .int i41, .int i42, .int i43, .int i44, .int i45, .ref b46, .ref b47, .ref b48, .ref b49, .ref b50, .ref b51, .ref b52, .ref b53, .ref b54, .ref b55, .ref b56, .ref b57, .ref b58, .ref b59, .ref b60, .ref b61, .ref b62, .ref b63]))]) X hW 0 ciX12 0 rfl (by decide) m_1231 rfl rfl rfl rfl (Nat.le_of_ble_eq_true rfl) rfl dX12_end_2 (fun H locs hW => ?_)
  refine lv_iload_n (pc := 5) hx hb dX12_end_5 rfl (lv_at hl 1 rfl) ?_
  refine lv_if_lt (tgt := 17) (pc := 6) hx hb dX12_end_6 rfl (fun c1 => ?_) (fun c1 => ?_)
  · refine lv_iconst (v := 0) (pc := 17) hx hb dX12_end_17 (by decide) ?_
    exact e_z X hQ hr hW (u := [(h0, .inr (12, [.int 0, .ref b1, .int (nI n0), .int i3, .int i4, .int i5, .ref b6, .ref b7, .ref b8, .ref b9, .ref b10, .ref b11, .ref b12, .ref b13, .ref b14, .ref b15, .ref b16, .ref b17, .int i18, .int i19, .int i20, .ref b21, .ref b22, .ref b23, .ref b24, .ref b25, .ref b26, .int i27, .ref b28, .ref b29, .ref b30, .ref b31, .ref b32, .ref b33, .ref b34, .ref b35, .ref b36, .int i37, .int i38, .int i39, .int i40, .int i41, .int i42, .int i43, .int i44, .int i45, .ref b46, .ref b47, .ref b48, .ref b49, .ref b50, .ref b51, .ref b52, .ref b53, .ref b54, .ref b55, .ref b56, .ref b57, .ref b58, .ref b59, .ref b60, .ref b61, .ref b62, .ref b63]))]) rfl [0] rfl rfl (⟨(ct_out (fun h9 => by first | exact h9.1 c1 | exact c1 h9.2)).1.symm, by rw [(ct_out (fun h9 => by first | exact h9.1 c1 | exact c1 h9.2)).2]⟩) ⟨Nat.le_of_ble_eq_true rfl, Nat.le_of_ble_eq_true rfl⟩ dX12_end_18
  · have hg := c1
    refine lv_iload_n (pc := 9) hx hb dX12_end_9 rfl (lv_at hl 1 rfl) ?_
    refine lv_aload_n (pc := 10) hx hb dX12_end_10 rfl (lv_at hl 0 rfl) ?_
    refine r_get X hW 0 ciX12 2 rfl (by decide) m_1233 rfl rfl dX12_end_11 ?_
    refine lv_icmp_le (tgt := 19) (pc := 14) hx hb dX12_end_14 rfl (fun c2 => ?_) (fun c2 => ?_)
    · obtain ⟨k1, k2, k3⟩ := ct_in hn0 hg c2
      refine lv_aload_n (pc := 19) hx hb dX12_end_19 rfl (lv_at hl 0 rfl) ?_
      refine lv_iload_n (pc := 20) hx hb dX12_end_20 rfl (lv_at hl 1 rfl) ?_
      refine r_put (ws' := [(h0, .inr (12, [.int 0, .ref b1, .int p0, .int i3, .int i4, .int i5, .ref b6, .ref b7, .ref b8, .ref b9, .ref b10, .ref b11, .ref b12, .ref b13, .ref b14, .ref b15, .ref b16, .ref b17, .int i18, .int i19, .int i20, .ref b21, .ref b22, .ref b23, .ref b24, .ref b25, .ref b26, .int i27, .ref b28, .ref b29, .ref b30, .ref b31, .ref b32, .ref b33, .ref b34, .ref b35, .ref b36, .int i37, .int i38, .int i39, .int i40, .int i41, .int i42, .int i43, .int i44, .int i45, .ref b46, .ref b47, .ref b48, .ref b49, .ref b50, .ref b51, .ref b52, .ref b53, .ref b54, .ref b55, .ref b56, .ref b57, .ref b58, .ref b59, .ref b60, .ref b61, .ref b62, .ref b63]))]) X hW 0 ciX12 2 rfl (by decide) m_1233 rfl rfl rfl rfl (Nat.le_of_ble_eq_true rfl) rfl dX12_end_21 (fun H locs hW => ?_)
      refine lv_iconst (v := 1) (pc := 24) hx hb dX12_end_24 (by decide) ?_
      exact e_z X hQ hr hW (u := [(h0, .inr (12, [.int 0, .ref b1, .int p0, .int i3, .int i4, .int i5, .ref b6, .ref b7, .ref b8, .ref b9, .ref b10, .ref b11, .ref b12, .ref b13, .ref b14, .ref b15, .ref b16, .ref b17, .int i18, .int i19, .int i20, .ref b21, .ref b22, .ref b23, .ref b24, .ref b25, .ref b26, .int i27, .ref b28, .ref b29, .ref b30, .ref b31, .ref b32, .ref b33, .ref b34, .ref b35, .ref b36, .int i37, .int i38, .int i39, .int i40, .int i41, .int i42, .int i43, .int i44, .int i45, .ref b46, .ref b47, .ref b48, .ref b49, .ref b50, .ref b51, .ref b52, .ref b53, .ref b54, .ref b55, .ref b56, .ref b57, .ref b58, .ref b59, .ref b60, .ref b61, .ref b62, .ref b63]))]) rfl [0] rfl rfl (⟨k1.symm, by rw [← k2]⟩) ⟨Nat.le_of_ble_eq_true rfl, Nat.le_of_ble_eq_true rfl⟩ dX12_end_25
    · refine lv_iconst (v := 0) (pc := 17) hx hb dX12_end_17 (by decide) ?_
      exact e_z X hQ hr hW (u := [(h0, .inr (12, [.int 0, .ref b1, .int (nI n0), .int i3, .int i4, .int i5, .ref b6, .ref b7, .ref b8, .ref b9, .ref b10, .ref b11, .ref b12, .ref b13, .ref b14, .ref b15, .ref b16, .ref b17, .int i18, .int i19, .int i20, .ref b21, .ref b22, .ref b23, .ref b24, .ref b25, .ref b26, .int i27, .ref b28, .ref b29, .ref b30, .ref b31, .ref b32, .ref b33, .ref b34, .ref b35, .ref b36, .int i37, .int i38, .int i39, .int i40, .int i41, .int i42, .int i43, .int i44, .int i45, .ref b46, .ref b47, .ref b48, .ref b49, .ref b50, .ref b51, .ref b52, .ref b53, .ref b54, .ref b55, .ref b56, .ref b57, .ref b58, .ref b59, .ref b60, .ref b61, .ref b62, .ref b63]))]) rfl [0] rfl rfl (⟨(ct_out (fun h9 => by first | exact h9.1 c2 | exact c2 h9.2)).1.symm, by rw [(ct_out (fun h9 => by first | exact h9.1 c2 | exact c2 h9.2)).2]⟩) ⟨Nat.le_of_ble_eq_true rfl, Nat.le_of_ble_eq_true rfl⟩ dX12_end_18

set_option maxHeartbeats 4000000 in
set_option maxRecDepth 100000 in
theorem C_X11_feedG (l : Launch) (g : GG) (h0 a0 a1 a2 a3 a4 a5 a6 a7 a8 a9 a10 q : Nat) (j11 j12 j13 : Int32) (f0 : Nat → Int32) (n0 : Nat) (pl : Int32) (hn0 : n0 ≤ 400) (p0 p1 p2 p3 p4 : Int32) : MetI l g yX11_feed cX11_feed 6 (some .int) 2 0 0 [.ref h0, .int p0, .int p1, .int p2, .int p3, .int p4] [(h0, .inr (11, [.ref a0, .ref a1, .ref a2, .ref a3, .ref a4, .ref a5, .ref a6, .ref a7, .ref a8, .ref a9, .ref a10, .int j11, .int j12, .int j13])), (a0, .inr (8, [.ref q, .int (nI n0), .int pl])), (q, .inl (g.2.1 1, 400, .inl f0))] (fun r u => ∃ f : Nat → Int32, r = fdr n0 (s5 p0 p1 p2 p3 p4) ∧ u = [(h0, .inr (11, [.ref a0, .ref a1, .ref a2, .ref a3, .ref a4, .ref a5, .ref a6, .ref a7, .ref a8, .ref a9, .ref a10, .int j11, .int j12, .int j13])), (a0, .inr (8, [.ref q, .int (nI (fdn n0 (s5 p0 p1 p2 p3 p4))), .int pl])), (q, .inl (g.2.1 1, 400, .inl f))]) := by
  refine MetI.of (own := RX11) rfl (by decide) (Nat.le_of_ble_eq_true rfl) ?_
  intro p e s m below meth c A ls args Q hQ X hr hin hW hl
  have hx := X.1
  have hb := X.2.1
  have hl : lv_has ls 6 [(0, .ref h0), (1, .int p0), (2, .int p1), (3, .int p2), (4, .int p3), (5, .int p4)] := hl
  refine lv_aload_n (pc := 0) hx hb dX11_feed_0 rfl (lv_at hl 0 rfl) ?_
  refine r_get X hW 0 ciX11 0 rfl (by decide) m_353 rfl rfl dX11_feed_1 ?_
  refine lv_iload_n (pc := 4) hx hb dX11_feed_4 rfl (lv_at hl 1 rfl) ?_
  refine lv_iload_n (pc := 5) hx hb dX11_feed_5 rfl (lv_at hl 2 rfl) ?_
  refine lv_iload_n (pc := 6) hx hb dX11_feed_6 rfl (lv_at hl 3 rfl) ?_
  refine lv_iload (pc := 7) hx hb dX11_feed_7 (lv_at hl 4 rfl) ?_
  refine lv_iload (pc := 9) hx hb dX11_feed_9 (lv_at hl 5 rfl) ?_
  refine c_Vi (pc := 11) (As := [.int p0, .int p1, .int p2, .int p3, .int p4]) (rest := []) (wr := [(h0, .inr (11, [.ref a0, .ref a1, .ref a2, .ref a3, .ref a4, .ref a5, .ref a6, .ref a7, .ref a8, .ref a9, .ref a10, .int j11, .int j12, .int j13]))]) X hW 1 ciX8 rfl (C_X8_appendG l g a0 q f0 n0 pl hn0 p0 p1 p2 p3 p4) vX11_82 [1, 2] [0] rfl rfl rfl rfl rfl rfl hl.1 rfl (Nat.le_of_ble_eq_true rfl) ⟨Nat.le_of_ble_eq_true rfl, Nat.le_of_ble_eq_true rfl⟩ ⟨Nat.le_of_ble_eq_true rfl, Nat.le_of_ble_eq_true rfl⟩ dX11_feed_11 (fun r2 u9 H locs hq hW => ?_)
  obtain ⟨f1, rfl, rfl⟩ := hq
  have hW : WD g A s _ _ [(h0, .inr (11, [.ref a0, .ref a1, .ref a2, .ref a3, .ref a4, .ref a5, .ref a6, .ref a7, .ref a8, .ref a9, .ref a10, .int j11, .int j12, .int j13])), (a0, .inr (8, [.ref q, .int (nI (fdn n0 (s5 p0 p1 p2 p3 p4))), .int pl])), (q, .inl (g.2.1 1, 400, .inl f1))] := hW
  exact e_i X hQ hr hW (u := [(h0, .inr (11, [.ref a0, .ref a1, .ref a2, .ref a3, .ref a4, .ref a5, .ref a6, .ref a7, .ref a8, .ref a9, .ref a10, .int j11, .int j12, .int j13])), (a0, .inr (8, [.ref q, .int (nI (fdn n0 (s5 p0 p1 p2 p3 p4))), .int pl])), (q, .inl (g.2.1 1, 400, .inl f1))]) [0, 1, 2] rfl rfl (⟨f1, rfl, rfl⟩) ⟨Nat.le_of_ble_eq_true rfl, Nat.le_of_ble_eq_true rfl⟩ dX11_feed_14

set_option maxHeartbeats 4000000 in
set_option maxRecDepth 100000 in
theorem C_X11_endG (l : Launch) (g : GG) (h0 a0 a1 a2 a3 a4 a5 a6 a7 a8 a9 a10 q : Nat) (j11 j12 j13 : Int32) (f0 : Nat → Int32) (n0 : Nat) (pl p0 : Int32) (hn0 : n0 ≤ 400) : MetI l g yX11_end cX11_end 2 (some .boolean) 1 0 0 [.ref h0, .int p0] [(h0, .inr (11, [.ref a0, .ref a1, .ref a2, .ref a3, .ref a4, .ref a5, .ref a6, .ref a7, .ref a8, .ref a9, .ref a10, .int j11, .int j12, .int j13])), (a0, .inr (8, [.ref q, .int (nI n0), .int pl])), (q, .inl (g.2.1 1, 400, .inl f0))] (fun r u => r = ctr n0 p0 ∧ u = [(h0, .inr (11, [.ref a0, .ref a1, .ref a2, .ref a3, .ref a4, .ref a5, .ref a6, .ref a7, .ref a8, .ref a9, .ref a10, .int j11, .int j12, .int j13])), (a0, .inr (8, [.ref q, .int (nI (ctn n0 p0)), .int pl])), (q, .inl (g.2.1 1, 400, .inl f0))]) := by
  refine MetI.of (own := RX11) rfl (by decide) (Nat.le_of_ble_eq_true rfl) ?_
  intro p e s m below meth c A ls args Q hQ X hr hin hW hl
  have hx := X.1
  have hb := X.2.1
  have hl : lv_has ls 2 [(0, .ref h0), (1, .int p0)] := hl
  refine lv_aload_n (pc := 0) hx hb dX11_end_0 rfl (lv_at hl 0 rfl) ?_
  refine r_get X hW 0 ciX11 0 rfl (by decide) m_353 rfl rfl dX11_end_1 ?_
  refine lv_iload_n (pc := 4) hx hb dX11_end_4 rfl (lv_at hl 1 rfl) ?_
  refine c_Vi (pc := 5) (As := [.int p0]) (rest := []) (wr := [(h0, .inr (11, [.ref a0, .ref a1, .ref a2, .ref a3, .ref a4, .ref a5, .ref a6, .ref a7, .ref a8, .ref a9, .ref a10, .int j11, .int j12, .int j13]))]) X hW 1 ciX8 rfl (C_X8_cutG l g a0 q f0 n0 pl p0 hn0) vX11_86 [1, 2] [0] rfl rfl rfl rfl rfl rfl hl.1 rfl (Nat.le_of_ble_eq_true rfl) ⟨Nat.le_of_ble_eq_true rfl, Nat.le_of_ble_eq_true rfl⟩ ⟨Nat.le_of_ble_eq_true rfl, Nat.le_of_ble_eq_true rfl⟩ dX11_end_5 (fun r1 u9 H locs hq hW => ?_)
  obtain ⟨rfl, rfl⟩ := hq
  have hW : WD g A s _ _ [(h0, .inr (11, [.ref a0, .ref a1, .ref a2, .ref a3, .ref a4, .ref a5, .ref a6, .ref a7, .ref a8, .ref a9, .ref a10, .int j11, .int j12, .int j13])), (a0, .inr (8, [.ref q, .int (nI (ctn n0 p0)), .int pl])), (q, .inl (g.2.1 1, 400, .inl f0))] := hW
  exact e_z X hQ hr hW (u := [(h0, .inr (11, [.ref a0, .ref a1, .ref a2, .ref a3, .ref a4, .ref a5, .ref a6, .ref a7, .ref a8, .ref a9, .ref a10, .int j11, .int j12, .int j13])), (a0, .inr (8, [.ref q, .int (nI (ctn n0 p0)), .int pl])), (q, .inl (g.2.1 1, 400, .inl f0))]) (ctr_z _ _) [0, 1, 2] rfl rfl (⟨rfl, rfl⟩) ⟨Nat.le_of_ble_eq_true rfl, Nat.le_of_ble_eq_true rfl⟩ dX11_end_8

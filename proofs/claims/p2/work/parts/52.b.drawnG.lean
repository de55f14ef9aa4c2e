
set_option maxHeartbeats 4000000 in
set_option maxRecDepth 100000 in
theorem C_X11_drawnG (l : Launch) (g : GG) (h0 a0 a1 a2 a3 a4 a5 a6 a7 a8 a9 a10 : Nat) (j11 j12 j13 : Int32) (p0 p1 : Int32) (p2 : Int64) : MetI l g yX11_drawn cX11_drawn 5 (some .int) 2 0 0 [.ref h0, .int p0, .int p1, .long p2] [(h0, .inr (11, [.ref a0, .ref a1, .ref a2, .ref a3, .ref a4, .ref a5, .ref a6, .ref a7, .ref a8, .ref a9, .ref a10, .int j11, .int j12, .int j13]))] (fun r u => r = dv p0 p1 p2 ∧ u = [(h0, .inr (11, [.ref a0, .ref a1, .ref a2, .ref a3, .ref a4, .ref a5, .ref a6, .ref a7, .ref a8, .ref a9, .ref a10, .int j11, .int j12, .int j13]))]) := by
  refine MetI.of (own := RX11) rfl (by decide) (Nat.le_of_ble_eq_true rfl) ?_
  intro p e s m below meth c A ls args Q hQ X hr hin hW hl
  have hx := X.1
  have hb := X.2.1
  have hl : lv_has ls 5 [(0, .ref h0), (1, .int p0), (2, .int p1), (3, .long p2)] := hl
  refine lv_iload_n (pc := 0) hx hb dX11_drawn_0 rfl (lv_at hl 1 rfl) ?_
  refine lv_iconst (v := 2) (pc := 1) hx hb dX11_drawn_1 (by decide) ?_
  refine lv_icmp_lt (tgt := 20) (pc := 2) hx hb dX11_drawn_2 rfl (fun c1 => ?_) (fun c1 => ?_)
  · refine lv_iconst (v := (-1)) (pc := 20) hx hb dX11_drawn_20 (by decide) ?_
    exact e_i X hQ hr hW (u := [(h0, .inr (11, [.ref a0, .ref a1, .ref a2, .ref a3, .ref a4, .ref a5, .ref a6, .ref a7, .ref a8, .ref a9, .ref a10, .int j11, .int j12, .int j13]))]) [0] rfl rfl (⟨dv_no (fun h9 => by obtain ⟨h1, h2, h3, h4⟩ := h9; have h8 := c1; (first | rw [fa_lt] at h8 | rw [fa_le] at h8); (try simp only [i0, i1, i2, i7] at h8); omega), rfl⟩) ⟨Nat.le_of_ble_eq_true rfl, Nat.le_of_ble_eq_true rfl⟩ dX11_drawn_21
  · refine lv_iload_n (pc := 5) hx hb dX11_drawn_5 rfl (lv_at hl 1 rfl) ?_
    refine lv_bipush (v := 7) (pc := 6) hx hb dX11_drawn_6 (by decide) ?_
    refine lv_icmp_gt (tgt := 20) (pc := 8) hx hb dX11_drawn_8 rfl (fun c2 => ?_) (fun c2 => ?_)
    · refine lv_iconst (v := (-1)) (pc := 20) hx hb dX11_drawn_20 (by decide) ?_
      exact e_i X hQ hr hW (u := [(h0, .inr (11, [.ref a0, .ref a1, .ref a2, .ref a3, .ref a4, .ref a5, .ref a6, .ref a7, .ref a8, .ref a9, .ref a10, .int j11, .int j12, .int j13]))]) [0] rfl rfl (⟨dv_no (fun h9 => by obtain ⟨h1, h2, h3, h4⟩ := h9; have h8 := c2; (first | rw [fa_lt] at h8 | rw [fa_le] at h8); (try simp only [i0, i1, i2, i7] at h8); omega), rfl⟩) ⟨Nat.le_of_ble_eq_true rfl, Nat.le_of_ble_eq_true rfl⟩ dX11_drawn_21
    · refine lv_iload_n (pc := 11) hx hb dX11_drawn_11 rfl (lv_at hl 2 rfl) ?_
      refine lv_if_lt (tgt := 20) (pc := 12) hx hb dX11_drawn_12 rfl (fun c3 => ?_) (fun c3 => ?_)
      · refine lv_iconst (v := (-1)) (pc := 20) hx hb dX11_drawn_20 (by decide) ?_
        exact e_i X hQ hr hW (u := [(h0, .inr (11, [.ref a0, .ref a1, .ref a2, .ref a3, .ref a4, .ref a5, .ref a6, .ref a7, .ref a8, .ref a9, .ref a10, .int j11, .int j12, .int j13]))]) [0] rfl rfl (⟨dv_no (fun h9 => by obtain ⟨h1, h2, h3, h4⟩ := h9; have h8 := c3; (first | rw [fa_lt] at h8 | rw [fa_le] at h8); (try simp only [i0, i1, i2, i7] at h8); omega), rfl⟩) ⟨Nat.le_of_ble_eq_true rfl, Nat.le_of_ble_eq_true rfl⟩ dX11_drawn_21
      · refine lv_iload_n (pc := 15) hx hb dX11_drawn_15 rfl (lv_at hl 2 rfl) ?_
        refine lv_iload_n (pc := 16) hx hb dX11_drawn_16 rfl (lv_at hl 1 rfl) ?_
        refine lv_icmp_lt (tgt := 22) (pc := 17) hx hb dX11_drawn_17 rfl (fun c4 => ?_) (fun c4 => ?_)
        · have hok : dOk p0 p1 := by
            rw [fa_lt, i2] at c1; rw [fa_lt, i7] at c2; rw [fa_lt, i0] at c3; rw [fa_lt] at c4
            exact ⟨by omega, by omega, by omega, by omega⟩
          obtain ⟨n, fi, hn, hn7, hfi, rfl, rfl, hdv⟩ := dv_yes p2 hok
          refine lv_iload_n (pc := 22) hx hb dX11_drawn_22 rfl (lv_at hl 1 rfl) ?_
          refine lv_iload_n (pc := 23) hx hb dX11_drawn_23 rfl (lv_at hl 2 rfl) ?_
          refine lv_lload_n (pc := 24) hx hb dX11_drawn_24 rfl (lv_at hl 3 rfl) ?_
          refine c_Si (pc := 25) (As := [.int (nI n), .int (nI fi), .long p2]) (rest := []) (wr := [(h0, .inr (11, [.ref a0, .ref a1, .ref a2, .ref a3, .ref a4, .ref a5, .ref a6, .ref a7, .ref a8, .ref a9, .ref a10, .int j11, .int j12, .int j13]))]) X hW (C_X2_drawHours l g n fi hn hn7 hfi p2) vX11_304 [] [0] rfl rfl rfl rfl rfl rfl hl.1 rfl (Nat.le_of_ble_eq_true rfl) ⟨Nat.le_of_ble_eq_true rfl, Nat.le_of_ble_eq_true rfl⟩ ⟨Nat.le_of_ble_eq_true rfl, Nat.le_of_ble_eq_true rfl⟩ dX11_drawn_25 (fun r5 u9 H locs hq hW => ?_)
          obtain ⟨rfl, rfl⟩ := hq
          have hW : WD g A s _ _ [(h0, .inr (11, [.ref a0, .ref a1, .ref a2, .ref a3, .ref a4, .ref a5, .ref a6, .ref a7, .ref a8, .ref a9, .ref a10, .int j11, .int j12, .int j13]))] := hW
          exact e_i X hQ hr hW (u := [(h0, .inr (11, [.ref a0, .ref a1, .ref a2, .ref a3, .ref a4, .ref a5, .ref a6, .ref a7, .ref a8, .ref a9, .ref a10, .int j11, .int j12, .int j13]))]) [0] rfl rfl (⟨hdv.symm, rfl⟩) ⟨Nat.le_of_ble_eq_true rfl, Nat.le_of_ble_eq_true rfl⟩ dX11_drawn_28
        · refine lv_iconst (v := (-1)) (pc := 20) hx hb dX11_drawn_20 (by decide) ?_
          exact e_i X hQ hr hW (u := [(h0, .inr (11, [.ref a0, .ref a1, .ref a2, .ref a3, .ref a4, .ref a5, .ref a6, .ref a7, .ref a8, .ref a9, .ref a10, .int j11, .int j12, .int j13]))]) [0] rfl rfl (⟨dv_no (fun h9 => by obtain ⟨h1, h2, h3, h4⟩ := h9; have h8 := c4; (first | rw [fa_lt] at h8 | rw [fa_le] at h8); (try simp only [i0, i1, i2, i7] at h8); omega), rfl⟩) ⟨Nat.le_of_ble_eq_true rfl, Nat.le_of_ble_eq_true rfl⟩ dX11_drawn_21

set_option maxHeartbeats 4000000 in
set_option maxRecDepth 100000 in
theorem C_X12_drawnG (l : Launch) (g : GG) (h0 b1 b6 b7 b8 b9 b10 b11 b12 b13 b14 b15 b16 b17 b21 b22 b23 b24 b25 b26 b28 b29 b30 b31 b32 b33 b34 b35 b36 b46 b47 b48 b49 b50 b51 b52 b53 b54 b55 b56 b57 b58 b59 b60 b61 b62 b63 : Nat) (ii0 ii2 ii3 ii4 ii5 ii18 ii19 ii20 ii27 ii37 ii38 ii39 ii40 ii41 ii42 ii43 ii44 ii45 : Int32) (p0 p1 : Int32) (p2 : Int64) : MetI l g yX12_drawn cX12_drawn 13 (some .int) 1 0 0 [.ref h0, .int p0, .int p1, .long p2] [(h0, .inr (12, [.int ii0, .ref b1, .int ii2, .int ii3, .int ii4, .int ii5, .ref b6, .ref b7, .ref b8, .ref b9, .ref b10, .ref b11, .ref b12, .ref b13, .ref b14, .ref b15, .ref b16, .ref b17, .int ii18, .int ii19, .int ii20, .ref b21, .ref b22, .ref b23, .ref b24, .ref b25, .ref b26, .int ii27, .ref b28, .ref b29, .ref b30, .ref b31, .ref b32, .ref b33, .ref b34, .ref b35, .ref b36, .int ii37, .int ii38, .int ii39, .int ii40, .int ii41, .int ii42, .int ii43, .int ii44, .int ii45, .ref b46, .ref b47, .ref b48, .ref b49, .ref b50, .ref b51, .ref b52, .ref b53, .ref b54, .ref b55, .ref b56, .ref b57, .ref b58, .ref b59, .ref b60, .ref b61, .ref b62, .ref b63]))] (fun r u => r = dv p0 p1 p2 ∧ u = [(h0, .inr (12, [.int 0, .ref b1, .int ii2, .int ii3, .int ii4, .int ii5, .ref b6, .ref b7, .ref b8, .ref b9, .ref b10, .ref b11, .ref b12, .ref b13, .ref b14, .ref b15, .ref b16, .ref b17, .int ii18, .int ii19, .int ii20, .ref b21, .ref b22, .ref b23, .ref b24, .ref b25, .ref b26, .int ii27, .ref b28, .ref b29, .ref b30, .ref b31, .ref b32, .ref b33, .ref b34, .ref b35, .ref b36, .int ii37, .int ii38, .int ii39, .int ii40, .int ii41, .int ii42, .int ii43, .int ii44, .int ii45, .ref b46, .ref b47, .ref b48, .ref b49, .ref b50, .ref b51, .ref b52, .ref b53, .ref b54, .ref b55, .ref b56, .ref b57, .ref b58, .ref b59, .ref b60, .ref b61, .ref b62, .ref b63]))]) := by
  refine MetI.of (own := RX12) rfl (by decide) (Nat.le_of_ble_eq_true rfl) ?_
  intro p e s m below meth c A ls args Q hQ X hr hin hW hl
  have hx := X.1
  have hb := X.2.1
  have hl : lv_has ls 13 [(0, .ref h0), (1, .int p0), (2, .int p1), (3, .long p2)] := hl
  refine lv_aload_n (pc := 0) hx hb dX12_drawn_0 rfl (lv_at hl 0 rfl) ?_
  refine lv_iconst (v := 0) (pc := 1) hx hb dX12_drawn_1 (by decide) ?_
  refine r_put (ws' := [(h0, .inr (12, [.int 0, .ref b1, .int ii2, .int ii3, .int ii4, .int ii5, .ref b6, .ref b7, .ref b8, .ref b9, .ref b10, .ref b11, .ref b12, .ref b13, .ref b14, .ref b15, .ref b16, .ref b17, .int ii18, .int ii19, .int ii20, .ref b21, .ref b22, .ref b23, .ref b24, .ref b25, .ref b26, .int ii27, .ref b28, .ref b29, .ref b30, .ref b31, .ref b32, .ref b33, .ref b34, .ref b35, .ref b36, .int ii37, .int ii38, .int ii39, .int ii40, .int ii41, .int ii42, .int ii43, .int ii44, .int ii45, .ref b46, .ref b47, .ref b48, .ref b49, .ref b50, .ref b51, .ref b52, .ref b53, .ref b54, .ref b55, .ref b56, .ref b57, .ref b58, .ref b59, .ref b60, .ref b61, .ref b62, .ref b63]))]) X hW 0 ciX12 0 rfl (by decide) m_1231 rfl rfl rfl rfl (Nat.le_of_ble_eq_true rfl) rfl dX12_drawn_2 (fun H locs hW => ?_)
  refine lv_iload_n (pc := 5) hx hb dX12_drawn_5 rfl (lv_at hl 1 rfl) ?_
  refine lv_iconst (v := 2) (pc := 6) hx hb dX12_drawn_6 (by decide) ?_
  refine lv_bipush (v := 7) (pc := 7) hx hb dX12_drawn_7 (by decide) ?_
  refine c_Si (pc := 9) (As := [.int p0, .int 2, .int 7]) (rest := []) (wr := [(h0, .inr (12, [.int 0, .ref b1, .int ii2, .int ii3, .int ii4, .int ii5, .ref b6, .ref b7, .ref b8, .ref b9, .ref b10, .ref b11, .ref b12, .ref b13, .ref b14, .ref b15, .ref b16, .ref b17, .int ii18, .int ii19, .int ii20, .ref b21, .ref b22, .ref b23, .ref b24, .ref b25, .ref b26, .int ii27, .ref b28, .ref b29, .ref b30, .ref b31, .ref b32, .ref b33, .ref b34, .ref b35, .ref b36, .int ii37, .int ii38, .int ii39, .int ii40, .int ii41, .int ii42, .int ii43, .int ii44, .int ii45, .ref b46, .ref b47, .ref b48, .ref b49, .ref b50, .ref b51, .ref b52, .ref b53, .ref b54, .ref b55, .ref b56, .ref b57, .ref b58, .ref b59, .ref b60, .ref b61, .ref b62, .ref b63]))]) X hW (C_X12_isIn l g p0 2 7) vX12_198 [] [0] rfl rfl rfl rfl rfl rfl hl.1 rfl (Nat.le_of_ble_eq_true rfl) ⟨Nat.le_of_ble_eq_true rfl, Nat.le_of_ble_eq_true rfl⟩ ⟨Nat.le_of_ble_eq_true rfl, Nat.le_of_ble_eq_true rfl⟩ dX12_drawn_9 (fun r1 u9 H locs hq hW => ?_)
  obtain ⟨rfl, rfl⟩ := hq
  have hW : WD g A s _ _ [(h0, .inr (12, [.int 0, .ref b1, .int ii2, .int ii3, .int ii4, .int ii5, .ref b6, .ref b7, .ref b8, .ref b9, .ref b10, .ref b11, .ref b12, .ref b13, .ref b14, .ref b15, .ref b16, .ref b17, .int ii18, .int ii19, .int ii20, .ref b21, .ref b22, .ref b23, .ref b24, .ref b25, .ref b26, .int ii27, .ref b28, .ref b29, .ref b30, .ref b31, .ref b32, .ref b33, .ref b34, .ref b35, .ref b36, .int ii37, .int ii38, .int ii39, .int ii40, .int ii41, .int ii42, .int ii43, .int ii44, .int ii45, .ref b46, .ref b47, .ref b48, .ref b49, .ref b50, .ref b51, .ref b52, .ref b53, .ref b54, .ref b55, .ref b56, .ref b57, .ref b58, .ref b59, .ref b60, .ref b61, .ref b62, .ref b63]))] := hW
  refine lv_if_eq (tgt := 26) (pc := 12) hx hb dX12_drawn_12 rfl (fun c2 => ?_) (fun c2 => ?_)
  · refine lv_iconst (v := (-1)) (pc := 26) hx hb dX12_drawn_26 (by decide) ?_
    exact e_i X hQ hr hW (u := [(h0, .inr (12, [.int 0, .ref b1, .int ii2, .int ii3, .int ii4, .int ii5, .ref b6, .ref b7, .ref b8, .ref b9, .ref b10, .ref b11, .ref b12, .ref b13, .ref b14, .ref b15, .ref b16, .ref b17, .int ii18, .int ii19, .int ii20, .ref b21, .ref b22, .ref b23, .ref b24, .ref b25, .ref b26, .int ii27, .ref b28, .ref b29, .ref b30, .ref b31, .ref b32, .ref b33, .ref b34, .ref b35, .ref b36, .int ii37, .int ii38, .int ii39, .int ii40, .int ii41, .int ii42, .int ii43, .int ii44, .int ii45, .ref b46, .ref b47, .ref b48, .ref b49, .ref b50, .ref b51, .ref b52, .ref b53, .ref b54, .ref b55, .ref b56, .ref b57, .ref b58, .ref b59, .ref b60, .ref b61, .ref b62, .ref b63]))]) [0] rfl rfl (⟨dv_no (fun h9 => by obtain ⟨h1, h2, h3, h4⟩ := h9; rcases inv3_0 c2 with h8 | h8 <;> (rw [fa_lt] at h8; try rw [fb_subI (by rw [i1]; omega) (by rw [i1]; omega)] at h8) <;> (try simp only [i0, i1, i2, i7] at h8) <;> omega), rfl⟩) ⟨Nat.le_of_ble_eq_true rfl, Nat.le_of_ble_eq_true rfl⟩ dX12_drawn_27
  · refine lv_iload_n (pc := 15) hx hb dX12_drawn_15 rfl (lv_at hl 2 rfl) ?_
    refine lv_iconst (v := 0) (pc := 16) hx hb dX12_drawn_16 (by decide) ?_
    refine lv_iload_n (pc := 17) hx hb dX12_drawn_17 rfl (lv_at hl 1 rfl) ?_
    refine lv_iconst (v := 1) (pc := 18) hx hb dX12_drawn_18 (by decide) ?_
    refine lv_isub (pc := 19) hx hb dX12_drawn_19 ?_
    refine c_Si (pc := 20) (As := [.int p1, .int 0, .int (p0 - 1)]) (rest := []) (wr := [(h0, .inr (12, [.int 0, .ref b1, .int ii2, .int ii3, .int ii4, .int ii5, .ref b6, .ref b7, .ref b8, .ref b9, .ref b10, .ref b11, .ref b12, .ref b13, .ref b14, .ref b15, .ref b16, .ref b17, .int ii18, .int ii19, .int ii20, .ref b21, .ref b22, .ref b23, .ref b24, .ref b25, .ref b26, .int ii27, .ref b28, .ref b29, .ref b30, .ref b31, .ref b32, .ref b33, .ref b34, .ref b35, .ref b36, .int ii37, .int ii38, .int ii39, .int ii40, .int ii41, .int ii42, .int ii43, .int ii44, .int ii45, .ref b46, .ref b47, .ref b48, .ref b49, .ref b50, .ref b51, .ref b52, .ref b53, .ref b54, .ref b55, .ref b56, .ref b57, .ref b58, .ref b59, .ref b60, .ref b61, .ref b62, .ref b63]))]) X hW (C_X12_isIn l g p1 0 (p0 - 1)) vX12_198 [] [0] rfl rfl rfl rfl rfl rfl hl.1 rfl (Nat.le_of_ble_eq_true rfl) ⟨Nat.le_of_ble_eq_true rfl, Nat.le_of_ble_eq_true rfl⟩ ⟨Nat.le_of_ble_eq_true rfl, Nat.le_of_ble_eq_true rfl⟩ dX12_drawn_20 (fun r3 u9 H locs hq hW => ?_)
    obtain ⟨rfl, rfl⟩ := hq
    have hW : WD g A s _ _ [(h0, .inr (12, [.int 0, .ref b1, .int ii2, .int ii3, .int ii4, .int ii5, .ref b6, .ref b7, .ref b8, .ref b9, .ref b10, .ref b11, .ref b12, .ref b13, .ref b14, .ref b15, .ref b16, .ref b17, .int ii18, .int ii19, .int ii20, .ref b21, .ref b22, .ref b23, .ref b24, .ref b25, .ref b26, .int ii27, .ref b28, .ref b29, .ref b30, .ref b31, .ref b32, .ref b33, .ref b34, .ref b35, .ref b36, .int ii37, .int ii38, .int ii39, .int ii40, .int ii41, .int ii42, .int ii43, .int ii44, .int ii45, .ref b46, .ref b47, .ref b48, .ref b49, .ref b50, .ref b51, .ref b52, .ref b53, .ref b54, .ref b55, .ref b56, .ref b57, .ref b58, .ref b59, .ref b60, .ref b61, .ref b62, .ref b63]))] := hW
    refine lv_if_ne (tgt := 28) (pc := 23) hx hb dX12_drawn_23 rfl (fun c4 => ?_) (fun c4 => ?_)
    · have hok : dOk p0 p1 := by
        have q1 := inv3_1 c2; have q2 := inv3_1 c4
        rw [fa_lt, fa_lt, i2, i7] at q1; rw [fa_lt, fa_lt, i0] at q2
        have q3 : (p0 - 1).toInt = p0.toInt - 1 := by rw [fb_subI (by rw [i1]; omega) (by rw [i1]; omega), i1]
        rw [q3] at q2
        exact ⟨by omega, by omega, by omega, by omega⟩
      obtain ⟨n, fi, hn, hn7, hfi, rfl, rfl, hdv⟩ := dv_yes p2 hok
      refine lv_iconst (v := 1) (pc := 28) hx hb dX12_drawn_28 (by decide) ?_
      refine lv_iload_n (pc := 29) hx hb dX12_drawn_29 rfl (lv_at hl 2 rfl) ?_
      refine lv_ishl (pc := 30) hx hb dX12_drawn_30 ?_
      refine lv_topi (fun v5 ev5 => ?_)
      obtain rfl : v5 = (1 : Int32) <<< (nI fi &&& 31) := ev5.trans (rfl)
      refine lv_istore (lv' := [(5, .int ((1 : Int32) <<< (nI fi &&& 31))), (0, .ref h0), (1, .int (nI n)), (2, .int (nI fi)), (3, .long p2)]) (pc := 31) hx hb dX12_drawn_31 hl (by decide) rfl (fun ls hl => ?_)
      refine lv_lload_n (pc := 33) hx hb dX12_drawn_33 rfl (lv_at hl 4 rfl) ?_
      refine lv_lstore (lv' := [(6, .long p2), (5, .int ((1 : Int32) <<< (nI fi &&& 31))), (0, .ref h0), (1, .int (nI n)), (2, .int (nI fi)), (3, .long p2)]) (pc := 34) hx hb dX12_drawn_34 hl (by decide) rfl (fun ls hl => ?_)
      refine lv_iconst (v := 1) (pc := 36) hx hb dX12_drawn_36 (by decide) ?_
      refine lv_istore (lv' := [(8, .int 1), (6, .long p2), (5, .int ((1 : Int32) <<< (nI fi &&& 31))), (0, .ref h0), (1, .int (nI n)), (2, .int (nI fi)), (3, .long p2)]) (pc := 37) hx hb dX12_drawn_37 hl (by decide) rfl (fun ls hl => ?_)
      have loop1 : ∀ (fu : Nat) (i : Nat) (kn : Int32) (x : Int64), (61 ≤ fu + i) → (i ≤ 60) → (drH n 60 1 ((1 : Int32) <<< (nI fi &&& 31)) p2 = drH n (60 - i) (nI (i + 1)) kn x) → ∀ (H : Heap) (locs : List Loc) (ls : Array Slot), WD g A s H locs [(h0, .inr (12, [.int 0, .ref b1, .int ii2, .int ii3, .int ii4, .int ii5, .ref b6, .ref b7, .ref b8, .ref b9, .ref b10, .ref b11, .ref b12, .ref b13, .ref b14, .ref b15, .ref b16, .ref b17, .int ii18, .int ii19, .int ii20, .ref b21, .ref b22, .ref b23, .ref b24, .ref b25, .ref b26, .int ii27, .ref b28, .ref b29, .ref b30, .ref b31, .ref b32, .ref b33, .ref b34, .ref b35, .ref b36, .int ii37, .int ii38, .int ii39, .int ii40, .int ii41, .int ii42, .int ii43, .int ii44, .int ii45, .ref b46, .ref b47, .ref b48, .ref b49, .ref b50, .ref b51, .ref b52, .ref b53, .ref b54, .ref b55, .ref b56, .ref b57, .ref b58, .ref b59, .ref b60, .ref b61, .ref b62, .ref b63]))] → lv_has ls 13 [(1, .int (nI n)), (5, .int kn), (6, .long x), (8, .int (nI (i + 1)))] → W p l e (RM 1 0 0) s m args below meth c H locs 0 0 Q (F0 m 39 ls []) := by
        intro fu
        induction fu with
        | zero =>
          intro i kn x hm hi hres
          exact absurd hm (by omega)
        | succ fu ih1 =>
          intro i kn x hm hi hres H locs ls hW hl
          refine lv_iload (pc := 39) hx hb dX12_drawn_39 (lv_at hl 3 rfl) ?_
          refine lv_bipush (v := 60) (pc := 41) hx hb dX12_drawn_41 (by decide) ?_
          refine lv_icmp_gt (tgt := 148) (pc := 43) hx hb dX12_drawn_43 rfl (fun c6 => ?_) (fun c6 => ?_)
          · refine lv_iconst (v := (-1)) (pc := 148) hx hb dX12_drawn_148 (by decide) ?_
            exact e_i X hQ hr hW (u := [(h0, .inr (12, [.int 0, .ref b1, .int ii2, .int ii3, .int ii4, .int ii5, .ref b6, .ref b7, .ref b8, .ref b9, .ref b10, .ref b11, .ref b12, .ref b13, .ref b14, .ref b15, .ref b16, .ref b17, .int ii18, .int ii19, .int ii20, .ref b21, .ref b22, .ref b23, .ref b24, .ref b25, .ref b26, .int ii27, .ref b28, .ref b29, .ref b30, .ref b31, .ref b32, .ref b33, .ref b34, .ref b35, .ref b36, .int ii37, .int ii38, .int ii39, .int ii40, .int ii41, .int ii42, .int ii43, .int ii44, .int ii45, .ref b46, .ref b47, .ref b48, .ref b49, .ref b50, .ref b51, .ref b52, .ref b53, .ref b54, .ref b55, .ref b56, .ref b57, .ref b58, .ref b59, .ref b60, .ref b61, .ref b62, .ref b63]))]) [0] rfl rfl (⟨by rw [hdv, hres, show 60 - i = 0 by have := lt_t (i := 60) (k := i + 1) (by decide) (by omega) c6; omega, drH], rfl⟩) ⟨Nat.le_of_ble_eq_true rfl, Nat.le_of_ble_eq_true rfl⟩ dX12_drawn_149
          · have hlt : i + 1 ≤ 60 := by have := lt_f (i := 60) (k := i + 1) (by decide) (by omega) c6; omega
            refine lv_iconst (v := 0) (pc := 46) hx hb dX12_drawn_46 (by decide) ?_
            refine lv_istore (lv' := [(9, .int 0), (1, .int (nI n)), (5, .int kn), (6, .long x), (8, .int (nI (i + 1)))]) (pc := 47) hx hb dX12_drawn_47 hl (by decide) rfl (fun ls hl => ?_)
            refine lv_iconst (v := 0) (pc := 49) hx hb dX12_drawn_49 (by decide) ?_
            refine lv_istore (lv' := [(10, .int 0), (9, .int 0), (1, .int (nI n)), (5, .int kn), (6, .long x), (8, .int (nI (i + 1)))]) (pc := 50) hx hb dX12_drawn_50 hl (by decide) rfl (fun ls hl => ?_)
            have loop2 : ∀ (fu : Nat) (o : Nat) (ca : Int32) (y : Int64), (n + 1 ≤ fu + o) → (o ≤ n) → (drO n kn o x = (ca, y)) → ∀ (H : Heap) (locs : List Loc) (ls : Array Slot), WD g A s H locs [(h0, .inr (12, [.int 0, .ref b1, .int ii2, .int ii3, .int ii4, .int ii5, .ref b6, .ref b7, .ref b8, .ref b9, .ref b10, .ref b11, .ref b12, .ref b13, .ref b14, .ref b15, .ref b16, .ref b17, .int ii18, .int ii19, .int ii20, .ref b21, .ref b22, .ref b23, .ref b24, .ref b25, .ref b26, .int ii27, .ref b28, .ref b29, .ref b30, .ref b31, .ref b32, .ref b33, .ref b34, .ref b35, .ref b36, .int ii37, .int ii38, .int ii39, .int ii40, .int ii41, .int ii42, .int ii43, .int ii44, .int ii45, .ref b46, .ref b47, .ref b48, .ref b49, .ref b50, .ref b51, .ref b52, .ref b53, .ref b54, .ref b55, .ref b56, .ref b57, .ref b58, .ref b59, .ref b60, .ref b61, .ref b62, .ref b63]))] → lv_has ls 13 [(1, .int (nI n)), (5, .int kn), (6, .long y), (8, .int (nI (i + 1))), (9, .int ca), (10, .int (nI o))] → W p l e (RM 1 0 0) s m args below meth c H locs 0 0 Q (F0 m 52 ls []) := by
              intro fu
              induction fu with
              | zero =>
                intro o ca y hm ho hdr
                exact absurd hm (by omega)
              | succ fu ih2 =>
                intro o ca y hm ho hdr H locs ls hW hl
                refine lv_iload (pc := 52) hx hb dX12_drawn_52 (lv_at hl 5 rfl) ?_
                refine lv_iload_n (pc := 54) hx hb dX12_drawn_54 rfl (lv_at hl 0 rfl) ?_
                refine lv_icmp_ge (tgt := 122) (pc := 55) hx hb dX12_drawn_55 rfl (fun c7 => ?_) (fun c7 => ?_)
                · have hon : o = n := by have := ge_t (k := n) (by omega) (by omega) c7; omega
                  rw [hon] at hdr
                  refine lv_iload (pc := 122) hx hb dX12_drawn_122 (lv_at hl 1 rfl) ?_
                  refine lv_iload (pc := 124) hx hb dX12_drawn_124 (lv_at hl 4 rfl) ?_
                  refine lv_ior (pc := 126) hx hb dX12_drawn_126 ?_
                  refine lv_topi (fun v8 ev8 => ?_)
                  obtain rfl : v8 = kn ||| ca := ev8.trans (rfl)
                  refine lv_istore (lv' := [(5, .int (kn ||| ca)), (1, .int (nI n)), (6, .long y), (8, .int (nI (i + 1))), (9, .int ca), (10, .int (nI o))]) (pc := 127) hx hb dX12_drawn_127 hl (by decide) rfl (fun ls hl => ?_)
                  refine lv_iload (pc := 129) hx hb dX12_drawn_129 (lv_at hl 0 rfl) ?_
                  refine lv_iconst (v := 1) (pc := 131) hx hb dX12_drawn_131 (by decide) ?_
                  refine lv_iload_n (pc := 132) hx hb dX12_drawn_132 rfl (lv_at hl 1 rfl) ?_
                  refine lv_ishl (pc := 133) hx hb dX12_drawn_133 ?_
                  refine lv_topi (fun v9 ev9 => ?_)
                  obtain rfl : v9 = (1 : Int32) <<< (nI n &&& 31) := ev9.trans (rfl)
                  refine lv_iconst (v := 1) (pc := 134) hx hb dX12_drawn_134 (by decide) ?_
                  refine lv_isub (pc := 135) hx hb dX12_drawn_135 ?_
                  refine lv_topi (fun v10 ev10 => ?_)
                  obtain rfl : v10 = evr n := ev10.trans (rfl)
                  refine lv_icmp_ne (tgt := 142) (pc := 136) hx hb dX12_drawn_136 rfl (fun c11 => ?_) (fun c11 => ?_)
                  · have hre2 : drH n 60 1 ((1 : Int32) <<< (nI fi &&& 31)) p2 = drH n (60 - (i + 1)) (nI (i + 1 + 1)) (kn ||| ca) y := by
                      rw [hres, show 60 - i = (60 - (i + 1)) + 1 by omega, drH, hdr, if_neg c11, nI_1]
                    refine lv_iinc (v := nI (i + 1 + 1)) (lv' := [(8, .int (nI (i + 1 + 1))), (5, .int (kn ||| ca)), (1, .int (nI n)), (6, .long y), (9, .int ca), (10, .int (nI o))]) (pc := 142) hx hb dX12_drawn_142 hl (k := 3) rfl (nI_1 (i + 1)) (by decide) rfl (fun ls hl => ?_)
                    refine lv_goto (tgt := 39) (pc := 145) hx hb dX12_drawn_145 rfl ?_
                    exact ih1 (i + 1) (kn ||| ca) y (by omega) (by omega) hre2 _ _ _ hW (lv_sub hl [2, 1, 3, 0] rfl)
                  · refine lv_iload (pc := 139) hx hb dX12_drawn_139 (lv_at hl 3 rfl) ?_
                    exact e_i X hQ hr hW (u := [(h0, .inr (12, [.int 0, .ref b1, .int ii2, .int ii3, .int ii4, .int ii5, .ref b6, .ref b7, .ref b8, .ref b9, .ref b10, .ref b11, .ref b12, .ref b13, .ref b14, .ref b15, .ref b16, .ref b17, .int ii18, .int ii19, .int ii20, .ref b21, .ref b22, .ref b23, .ref b24, .ref b25, .ref b26, .int ii27, .ref b28, .ref b29, .ref b30, .ref b31, .ref b32, .ref b33, .ref b34, .ref b35, .ref b36, .int ii37, .int ii38, .int ii39, .int ii40, .int ii41, .int ii42, .int ii43, .int ii44, .int ii45, .ref b46, .ref b47, .ref b48, .ref b49, .ref b50, .ref b51, .ref b52, .ref b53, .ref b54, .ref b55, .ref b56, .ref b57, .ref b58, .ref b59, .ref b60, .ref b61, .ref b62, .ref b63]))]) [0] rfl rfl (⟨by rw [hdv, hres, show 60 - i = (60 - (i + 1)) + 1 by omega, drH, hdr, if_pos c11], rfl⟩) ⟨Nat.le_of_ble_eq_true rfl, Nat.le_of_ble_eq_true rfl⟩ dX12_drawn_141
                · have hlo : o < n := ge_f (by omega) (by omega) c7
                  refine lv_lload (pc := 58) hx hb dX12_drawn_58 (lv_at hl 2 rfl) ?_
                  refine lv_ldc2 (pc := 60) hx hb X.2.2.2.1 (X.2.2.2.2.1 _ m_1768) dX12_drawn_60 ?_
                  refine lv_lmul (pc := 63) hx hb dX12_drawn_63 ?_
                  refine lv_ldc2 (pc := 64) hx hb X.2.2.2.1 (X.2.2.2.2.1 _ m_1769) dX12_drawn_64 ?_
                  refine lv_ladd (pc := 67) hx hb dX12_drawn_67 ?_
                  refine lv_topl (fun v12 ev12 => ?_)
                  obtain rfl : v12 = lcg y := ev12.trans (rfl)
                  refine lv_lstore (lv' := [(6, .long (lcg y)), (1, .int (nI n)), (5, .int kn), (8, .int (nI (i + 1))), (9, .int ca), (10, .int (nI o))]) (pc := 68) hx hb dX12_drawn_68 hl (by decide) rfl (fun ls hl => ?_)
                  refine lv_lload (pc := 70) hx hb dX12_drawn_70 (lv_at hl 0 rfl) ?_
                  refine lv_bipush (v := 33) (pc := 72) hx hb dX12_drawn_72 (by decide) ?_
                  refine lv_lushr (v := _) (pc := 74) hx hb dX12_drawn_74 rfl ?_
                  refine lv_topl (fun v13 ev13 => ?_)
                  obtain rfl : v13 = shr33 (lcg y) := ev13.trans (rfl)
                  refine lv_iload_n (pc := 75) hx hb dX12_drawn_75 rfl (lv_at hl 1 rfl) ?_
                  refine lv_iconst (v := 1) (pc := 76) hx hb dX12_drawn_76 (by decide) ?_
                  refine lv_isub (pc := 77) hx hb dX12_drawn_77 ?_
                  refine lv_topi (fun v14 ev14 => ?_)
                  obtain rfl : v14 = nI (n - 1) := ev14.trans (pk_sub (a := n) (b := 1) (by omega))
                  refine lv_i2l (v := lN (n - 1)) (pc := 78) hx hb dX12_drawn_78 (nI_l (by omega)) ?_
                  refine lv_lrem (pc := 79) hx hb dX12_drawn_79 (nz1 hn hn7) ?_
                  refine lv_topl (fun v15 ev15 => ?_)
                  obtain rfl : v15 = plcL n (lcg y) := ev15.trans (rfl)
                  refine lv_l2i (v := plc n (lcg y)) (pc := 80) hx hb dX12_drawn_80 (rfl) ?_
                  refine lv_istore (lv' := [(11, .int (plc n (lcg y))), (6, .long (lcg y)), (1, .int (nI n)), (5, .int kn), (8, .int (nI (i + 1))), (9, .int ca), (10, .int (nI o))]) (pc := 81) hx hb dX12_drawn_81 hl (by decide) rfl (fun ls hl => ?_)
                  refine lv_iload (pc := 83) hx hb dX12_drawn_83 (lv_at hl 0 rfl) ?_
                  refine lv_iload (pc := 85) hx hb dX12_drawn_85 (lv_at hl 6 rfl) ?_
                  refine lv_icmp_ge (tgt := 95) (pc := 87) hx hb dX12_drawn_87 rfl (fun c16 => ?_) (fun c16 => ?_)
                  · refine lv_iload (pc := 95) hx hb dX12_drawn_95 (lv_at hl 0 rfl) ?_
                    refine lv_iconst (v := 1) (pc := 97) hx hb dX12_drawn_97 (by decide) ?_
                    refine lv_iadd (pc := 98) hx hb dX12_drawn_98 ?_
                    refine lv_topi (fun t9 et9 => ?_)
                    obtain rfl : t9 = oth (nI o) (plc n (lcg y)) := et9.trans (if_neg (fun h9 => (Int32.not_le.mpr h9) c16)).symm
                    refine lv_istore (lv' := [(12, .int (oth (nI o) (plc n (lcg y)))), (11, .int (plc n (lcg y))), (6, .long (lcg y)), (1, .int (nI n)), (5, .int kn), (8, .int (nI (i + 1))), (9, .int ca), (10, .int (nI o))]) (pc := 99) hx hb dX12_drawn_99 hl (by decide) rfl (fun ls hl => ?_)
                    refine lv_iload (pc := 101) hx hb dX12_drawn_101 (lv_at hl 6 rfl) ?_
                    refine lv_iload (pc := 103) hx hb dX12_drawn_103 (lv_at hl 4 rfl) ?_
                    refine lv_iload (pc := 105) hx hb dX12_drawn_105 (lv_at hl 7 rfl) ?_
                    refine lv_ishr (pc := 107) hx hb dX12_drawn_107 ?_
                    refine lv_iconst (v := 1) (pc := 108) hx hb dX12_drawn_108 (by decide) ?_
                    refine lv_iand (pc := 109) hx hb dX12_drawn_109 ?_
                    refine lv_iload (pc := 110) hx hb dX12_drawn_110 (lv_at hl 0 rfl) ?_
                    refine lv_ishl (pc := 112) hx hb dX12_drawn_112 ?_
                    refine lv_ior (pc := 113) hx hb dX12_drawn_113 ?_
                    refine lv_topi (fun v17 ev17 => ?_)
                    obtain rfl : v17 = (if hasv kn (nI o) = 0 then ca else ca ||| ((1 : Int32) <<< (oth (nI o) (plc n (lcg y)) &&& 31))) := ev17.trans (cal_eq kn (nI o) _ ca)
                    refine lv_istore (lv' := [(9, .int (if hasv kn (nI o) = 0 then ca else ca ||| ((1 : Int32) <<< (oth (nI o) (plc n (lcg y)) &&& 31)))), (12, .int (oth (nI o) (plc n (lcg y)))), (11, .int (plc n (lcg y))), (6, .long (lcg y)), (1, .int (nI n)), (5, .int kn), (8, .int (nI (i + 1))), (10, .int (nI o))]) (pc := 114) hx hb dX12_drawn_114 hl (by decide) rfl (fun ls hl => ?_)
                    refine lv_iinc (v := nI (o + 1)) (lv' := [(10, .int (nI (o + 1))), (9, .int (if hasv kn (nI o) = 0 then ca else ca ||| ((1 : Int32) <<< (oth (nI o) (plc n (lcg y)) &&& 31)))), (12, .int (oth (nI o) (plc n (lcg y)))), (11, .int (plc n (lcg y))), (6, .long (lcg y)), (1, .int (nI n)), (5, .int kn), (8, .int (nI (i + 1)))]) (pc := 116) hx hb dX12_drawn_116 hl (k := 7) rfl (nI_1 o) (by decide) rfl (fun ls hl => ?_)
                    refine lv_goto (tgt := 52) (pc := 119) hx hb dX12_drawn_119 rfl ?_
                    exact ih2 (o + 1) _ (lcg y) (by omega) (by omega) (drO_1 hdr) _ _ _ hW (lv_sub hl [5, 6, 4, 7, 1, 0] rfl)
                  · refine lv_iload (pc := 90) hx hb dX12_drawn_90 (lv_at hl 0 rfl) ?_
                    refine lv_goto (tgt := 99) (pc := 92) hx hb dX12_drawn_92 rfl ?_
                    refine lv_topi (fun t9 et9 => ?_)
                    obtain rfl : t9 = oth (nI o) (plc n (lcg y)) := et9.trans (if_pos (fa_of_nle c16)).symm
                    refine lv_istore (lv' := [(12, .int (oth (nI o) (plc n (lcg y)))), (11, .int (plc n (lcg y))), (6, .long (lcg y)), (1, .int (nI n)), (5, .int kn), (8, .int (nI (i + 1))), (9, .int ca), (10, .int (nI o))]) (pc := 99) hx hb dX12_drawn_99 hl (by decide) rfl (fun ls hl => ?_)
                    refine lv_iload (pc := 101) hx hb dX12_drawn_101 (lv_at hl 6 rfl) ?_
                    refine lv_iload (pc := 103) hx hb dX12_drawn_103 (lv_at hl 4 rfl) ?_
                    refine lv_iload (pc := 105) hx hb dX12_drawn_105 (lv_at hl 7 rfl) ?_
                    refine lv_ishr (pc := 107) hx hb dX12_drawn_107 ?_
                    refine lv_iconst (v := 1) (pc := 108) hx hb dX12_drawn_108 (by decide) ?_
                    refine lv_iand (pc := 109) hx hb dX12_drawn_109 ?_
                    refine lv_iload (pc := 110) hx hb dX12_drawn_110 (lv_at hl 0 rfl) ?_
                    refine lv_ishl (pc := 112) hx hb dX12_drawn_112 ?_
                    refine lv_ior (pc := 113) hx hb dX12_drawn_113 ?_
                    refine lv_topi (fun v18 ev18 => ?_)
                    obtain rfl : v18 = (if hasv kn (nI o) = 0 then ca else ca ||| ((1 : Int32) <<< (oth (nI o) (plc n (lcg y)) &&& 31))) := ev18.trans (cal_eq kn (nI o) _ ca)
                    refine lv_istore (lv' := [(9, .int (if hasv kn (nI o) = 0 then ca else ca ||| ((1 : Int32) <<< (oth (nI o) (plc n (lcg y)) &&& 31)))), (12, .int (oth (nI o) (plc n (lcg y)))), (11, .int (plc n (lcg y))), (6, .long (lcg y)), (1, .int (nI n)), (5, .int kn), (8, .int (nI (i + 1))), (10, .int (nI o))]) (pc := 114) hx hb dX12_drawn_114 hl (by decide) rfl (fun ls hl => ?_)
                    refine lv_iinc (v := nI (o + 1)) (lv' := [(10, .int (nI (o + 1))), (9, .int (if hasv kn (nI o) = 0 then ca else ca ||| ((1 : Int32) <<< (oth (nI o) (plc n (lcg y)) &&& 31)))), (12, .int (oth (nI o) (plc n (lcg y)))), (11, .int (plc n (lcg y))), (6, .long (lcg y)), (1, .int (nI n)), (5, .int kn), (8, .int (nI (i + 1)))]) (pc := 116) hx hb dX12_drawn_116 hl (k := 7) rfl (nI_1 o) (by decide) rfl (fun ls hl => ?_)
                    refine lv_goto (tgt := 52) (pc := 119) hx hb dX12_drawn_119 rfl ?_
                    exact ih2 (o + 1) _ (lcg y) (by omega) (by omega) (drO_1 hdr) _ _ _ hW (lv_sub hl [5, 6, 4, 7, 1, 0] rfl)
            exact loop2 (n + 1) 0 0 x (by omega) (by omega) rfl _ _ _ hW (lv_sub hl [2, 3, 4, 5, 1, 0] rfl)
      exact loop1 61 0 ((1 : Int32) <<< (nI fi &&& 31)) p2 (by decide) (by decide) rfl _ _ _ hW (lv_sub hl [4, 2, 1, 0] rfl)
    · refine lv_iconst (v := (-1)) (pc := 26) hx hb dX12_drawn_26 (by decide) ?_
      exact e_i X hQ hr hW (u := [(h0, .inr (12, [.int 0, .ref b1, .int ii2, .int ii3, .int ii4, .int ii5, .ref b6, .ref b7, .ref b8, .ref b9, .ref b10, .ref b11, .ref b12, .ref b13, .ref b14, .ref b15, .ref b16, .ref b17, .int ii18, .int ii19, .int ii20, .ref b21, .ref b22, .ref b23, .ref b24, .ref b25, .ref b26, .int ii27, .ref b28, .ref b29, .ref b30, .ref b31, .ref b32, .ref b33, .ref b34, .ref b35, .ref b36, .int ii37, .int ii38, .int ii39, .int ii40, .int ii41, .int ii42, .int ii43, .int ii44, .int ii45, .ref b46, .ref b47, .ref b48, .ref b49, .ref b50, .ref b51, .ref b52, .ref b53, .ref b54, .ref b55, .ref b56, .ref b57, .ref b58, .ref b59, .ref b60, .ref b61, .ref b62, .ref b63]))]) [0] rfl rfl (⟨dv_no (fun h9 => by obtain ⟨h1, h2, h3, h4⟩ := h9; rcases inv3_0 c4 with h8 | h8 <;> (rw [fa_lt] at h8; try rw [fb_subI (by rw [i1]; omega) (by rw [i1]; omega)] at h8) <;> (try simp only [i0, i1, i2, i7] at h8) <;> omega), rfl⟩) ⟨Nat.le_of_ble_eq_true rfl, Nat.le_of_ble_eq_true rfl⟩ dX12_drawn_27

/-- the byte at a place of a tape of n bytes, -1 where there is none; where the blanks end -/
def atv (n : Nat) (f : Nat → Int32) (x : Int32) : Int32 := if x < 0 ∨ nI n ≤ x then -1 else f x.toNatClampNeg
theorem at_in {n : Nat} {x : Int32} (hn : n ≤ 400) (h1 : ¬ x < 0) (h2 : x < nI n) : vp_in x 400 := by
  rw [fa_lt, i0] at h1
  rw [fa_lt, nI_toInt (by omega)] at h2
  exact vp_in_iff.mpr ⟨by omega, by omega⟩
theorem atv_k {n k : Nat} {f : Nat → Int32} (hn : n ≤ 400) (hk : k < n) : atv n f (nI k) = f k := by
  have h1 : ¬ (nI k < 0 ∨ nI n ≤ nI k) := by
    rintro (h | h)
    · rw [fa_lt, i0, nI_toInt (by omega)] at h; omega
    · rw [nI_leI (by omega) (by omega)] at h; omega
  rw [atv, if_neg h1, nI_clamp (by omega)]
def skb (f : Nat → Int32) : Nat → Nat → Nat
  | 0, k => k
  | m + 1, k => if f k = 32 then skb f m (k + 1) else k
def skn (n : Nat) (f : Nat → Int32) (k : Nat) : Nat := skb f (n - k) k
theorem skn_0 {n k : Nat} {f : Nat → Int32} (h : n ≤ k) : skn n f k = k := by rw [skn, show n - k = 0 by omega, skb]
theorem skn_s {n k : Nat} {f : Nat → Int32} (h : k < n) (h2 : f k = 32) : skn n f k = skn n f (k + 1) := by rw [skn, show n - k = (n - (k + 1)) + 1 by omega, skb, if_pos h2, skn]
theorem skn_n {n k : Nat} {f : Nat → Int32} (h : k < n) (h2 : ¬ f k = 32) : skn n f k = k := by rw [skn, show n - k = (n - (k + 1)) + 1 by omega, skb, if_neg h2]
theorem skb_le (f : Nat → Int32) : ∀ m k, k ≤ skb f m k ∧ skb f m k ≤ k + m := by
  intro m
  induction m with
  | zero => intro k; exact ⟨Nat.le_refl _, Nat.le_refl _⟩
  | succ m ih =>
    intro k
    rw [skb]
    split
    · have := ih (k + 1); omega
    · omega
theorem skn_le {n k : Nat} {f : Nat → Int32} (h : k ≤ n) : k ≤ skn n f k ∧ skn n f k ≤ n := by
  have := skb_le f (n - k) k
  unfold skn
  omega
theorem dX8_at_16 : decode cX8_at 16 = .ok (.aload_n 0, 1) := DX8_at _ _ _ rfl
theorem dX8_at_17 : decode cX8_at 17 = .ok (.getfield 11, 3) := DX8_at _ _ _ rfl
theorem dX8_at_20 : decode cX8_at 20 = .ok (.iload_n 1, 1) := DX8_at _ _ _ rfl
theorem dX8_at_21 : decode cX8_at 21 = .ok (.iaload, 1) := DX8_at _ _ _ rfl
theorem m_449 : (Cond.code yX8_isDigit prog_10_method_14_code 3 (Option.some FieldType.boolean)) ∈ BW := bw (tb2 209 rfl) (by decide +kernel)
theorem dX8_isDigit_0 : decode cX8_isDigit 0 = .ok (.aload_n 0, 1) := DX8_isDigit _ _ _ rfl
theorem dX8_isDigit_1 : decode cX8_isDigit 1 = .ok (.iload_n 1, 1) := DX8_isDigit _ _ _ rfl
theorem dX8_isDigit_2 : decode cX8_isDigit 2 = .ok (.invokevirtual 38, 3) := DX8_isDigit _ _ _ rfl
theorem dX8_isDigit_5 : decode cX8_isDigit 5 = .ok (.istore_n 2, 1) := DX8_isDigit _ _ _ rfl
theorem dX8_isDigit_6 : decode cX8_isDigit 6 = .ok (.iload_n 2, 1) := DX8_isDigit _ _ _ rfl
theorem dX8_isDigit_7 : decode cX8_isDigit 7 = .ok (.bipush 48, 2) := DX8_isDigit _ _ _ rfl
theorem dX8_isDigit_9 : decode cX8_isDigit 9 = .ok (.if_icmp .lt 13, 3) := DX8_isDigit _ _ _ rfl
theorem dX8_isDigit_22 : decode cX8_isDigit 22 = .ok (.iconst 0, 1) := DX8_isDigit _ _ _ rfl
theorem dX8_isDigit_23 : decode cX8_isDigit 23 = .ok (.ireturn, 1) := DX8_isDigit _ _ _ rfl
theorem dX8_isDigit_12 : decode cX8_isDigit 12 = .ok (.iload_n 2, 1) := DX8_isDigit _ _ _ rfl
theorem dX8_isDigit_13 : decode cX8_isDigit 13 = .ok (.bipush 57, 2) := DX8_isDigit _ _ _ rfl
theorem dX8_isDigit_15 : decode cX8_isDigit 15 = .ok (.if_icmp .gt 7, 3) := DX8_isDigit _ _ _ rfl
theorem dX8_isDigit_18 : decode cX8_isDigit 18 = .ok (.iconst 1, 1) := DX8_isDigit _ _ _ rfl
theorem dX8_isDigit_19 : decode cX8_isDigit 19 = .ok (.goto 4, 3) := DX8_isDigit _ _ _ rfl
theorem dX8_skipBlanks_11 : decode cX8_skipBlanks 11 = .ok (.aload_n 0, 1) := DX8_skipBlanks _ _ _ rfl
theorem dX8_skipBlanks_12 : decode cX8_skipBlanks 12 = .ok (.aload_n 0, 1) := DX8_skipBlanks _ _ _ rfl
theorem dX8_skipBlanks_13 : decode cX8_skipBlanks 13 = .ok (.getfield 27, 3) := DX8_skipBlanks _ _ _ rfl
theorem dX8_skipBlanks_16 : decode cX8_skipBlanks 16 = .ok (.invokevirtual 38, 3) := DX8_skipBlanks _ _ _ rfl
theorem dX8_skipBlanks_19 : decode cX8_skipBlanks 19 = .ok (.bipush 32, 2) := DX8_skipBlanks _ _ _ rfl
theorem dX8_skipBlanks_21 : decode cX8_skipBlanks 21 = .ok (.if_icmp .ne 16, 3) := DX8_skipBlanks _ _ _ rfl
theorem dX8_skipBlanks_24 : decode cX8_skipBlanks 24 = .ok (.aload_n 0, 1) := DX8_skipBlanks _ _ _ rfl
theorem dX8_skipBlanks_25 : decode cX8_skipBlanks 25 = .ok (.dup, 1) := DX8_skipBlanks _ _ _ rfl
theorem dX8_skipBlanks_26 : decode cX8_skipBlanks 26 = .ok (.getfield 27, 3) := DX8_skipBlanks _ _ _ rfl
theorem dX8_skipBlanks_29 : decode cX8_skipBlanks 29 = .ok (.iconst 1, 1) := DX8_skipBlanks _ _ _ rfl
theorem dX8_skipBlanks_30 : decode cX8_skipBlanks 30 = .ok (.iadd, 1) := DX8_skipBlanks _ _ _ rfl
theorem dX8_skipBlanks_31 : decode cX8_skipBlanks 31 = .ok (.putfield 27, 3) := DX8_skipBlanks _ _ _ rfl
theorem dX8_skipBlanks_34 : decode cX8_skipBlanks 34 = .ok (.goto (-34), 3) := DX8_skipBlanks _ _ _ rfl
set_option maxHeartbeats 4000000 in
set_option maxRecDepth 100000 in
theorem C_X8_atG (l : Launch) (g : GG) (h0 q : Nat) (f0 : Nat → Int32) (n0 : Nat) (hn0 : n0 ≤ 400) (pl x : Int32) : MetI l g yX8_at cX8_at 2 (some .int) 0 0 0 [.ref h0, .int x] [(h0, .inr (8, [.ref q, .int (nI n0), .int pl])), (q, .inl (g.2.1 1, 400, .inl f0))] (fun r u => r = atv n0 f0 x ∧ u = [(h0, .inr (8, [.ref q, .int (nI n0), .int pl])), (q, .inl (g.2.1 1, 400, .inl f0))]) := by
  refine MetI.of (own := RX8) rfl (by decide) (Nat.le_of_ble_eq_true rfl) ?_
  intro p e s m below meth c A ls args Q hQ X hr hin hW hl
  have hx := X.1
  have hb := X.2.1
  have hl : lv_has ls 2 [(0, .ref h0), (1, .int x)] := hl
  refine lv_iload_n (pc := 0) hx hb dX8_at_0 rfl (lv_at hl 1 rfl) ?_
  refine lv_if_lt (tgt := 12) (pc := 1) hx hb dX8_at_1 rfl (fun c1 => ?_) (fun c1 => ?_)
  · refine lv_iconst (v := (-1)) (pc := 12) hx hb dX8_at_12 (by decide) ?_
    refine lv_goto (tgt := 22) (pc := 13) hx hb dX8_at_13 rfl ?_
    exact e_i X hQ hr hW (u := [(h0, .inr (8, [.ref q, .int (nI n0), .int pl])), (q, .inl (g.2.1 1, 400, .inl f0))]) [0, 1] rfl rfl (⟨(if_pos (by first | exact Or.inl c1 | exact Or.inr (fa_of_nlt c1))).symm, rfl⟩) ⟨Nat.le_of_ble_eq_true rfl, Nat.le_of_ble_eq_true rfl⟩ dX8_at_22
  · have hg := c1
    refine lv_iload_n (pc := 4) hx hb dX8_at_4 rfl (lv_at hl 1 rfl) ?_
    refine lv_aload_n (pc := 5) hx hb dX8_at_5 rfl (lv_at hl 0 rfl) ?_
    refine r_get X hW 0 ciX8 1 rfl (by decide) m_37 rfl rfl dX8_at_6 ?_
    refine lv_icmp_lt (tgt := 16) (pc := 9) hx hb dX8_at_9 rfl (fun c2 => ?_) (fun c2 => ?_)
    · refine lv_aload_n (pc := 16) hx hb dX8_at_16 rfl (lv_at hl 0 rfl) ?_
      refine r_get X hW 0 ciX8 0 rfl (by decide) m_36 rfl rfl dX8_at_17 ?_
      refine lv_iload_n (pc := 20) hx hb dX8_at_20 rfl (lv_at hl 1 rfl) ?_
      refine r_iald X hW 1 rfl (at_in hn0 hg c2) dX8_at_21 ?_
      exact e_i X hQ hr hW (u := [(h0, .inr (8, [.ref q, .int (nI n0), .int pl])), (q, .inl (g.2.1 1, 400, .inl f0))]) [0, 1] rfl rfl (⟨(if_neg (fun h9 => h9.elim hg (Int32.not_le.mpr c2))).symm, rfl⟩) ⟨Nat.le_of_ble_eq_true rfl, Nat.le_of_ble_eq_true rfl⟩ dX8_at_22
    · refine lv_iconst (v := (-1)) (pc := 12) hx hb dX8_at_12 (by decide) ?_
      refine lv_goto (tgt := 22) (pc := 13) hx hb dX8_at_13 rfl ?_
      exact e_i X hQ hr hW (u := [(h0, .inr (8, [.ref q, .int (nI n0), .int pl])), (q, .inl (g.2.1 1, 400, .inl f0))]) [0, 1] rfl rfl (⟨(if_pos (by first | exact Or.inl c2 | exact Or.inr (fa_of_nlt c2))).symm, rfl⟩) ⟨Nat.le_of_ble_eq_true rfl, Nat.le_of_ble_eq_true rfl⟩ dX8_at_22

set_option maxHeartbeats 4000000 in
set_option maxRecDepth 100000 in
theorem C_X8_isDigitG (l : Launch) (g : GG) (h0 q : Nat) (f0 : Nat → Int32) (n0 : Nat) (hn0 : n0 ≤ 400) (pl x : Int32) : MetI l g yX8_isDigit cX8_isDigit 3 (some .boolean) 1 0 0 [.ref h0, .int x] [(h0, .inr (8, [.ref q, .int (nI n0), .int pl])), (q, .inl (g.2.1 1, 400, .inl f0))] (fun r u => r = inv3 (atv n0 f0 x) 48 57 ∧ u = [(h0, .inr (8, [.ref q, .int (nI n0), .int pl])), (q, .inl (g.2.1 1, 400, .inl f0))]) := by
  refine MetI.of (own := RX8) rfl (by decide) (Nat.le_of_ble_eq_true rfl) ?_
  intro p e s m below meth c A ls args Q hQ X hr hin hW hl
  have hx := X.1
  have hb := X.2.1
  have hl : lv_has ls 3 [(0, .ref h0), (1, .int x)] := hl
  refine lv_aload_n (pc := 0) hx hb dX8_isDigit_0 rfl (lv_at hl 0 rfl) ?_
  refine lv_iload_n (pc := 1) hx hb dX8_isDigit_1 rfl (lv_at hl 1 rfl) ?_
  refine c_Vi (pc := 2) (As := [.int x]) (rest := []) (wr := []) X hW 0 ciX8 rfl (C_X8_atG l g h0 q f0 n0 hn0 pl x) vX8_38 [0, 1] [] rfl rfl rfl rfl rfl rfl hl.1 rfl (Nat.le_of_ble_eq_true rfl) ⟨Nat.le_of_ble_eq_true rfl, Nat.le_of_ble_eq_true rfl⟩ ⟨Nat.le_of_ble_eq_true rfl, Nat.le_of_ble_eq_true rfl⟩ dX8_isDigit_2 (fun r1 u9 H locs hq hW => ?_)
  obtain ⟨rfl, rfl⟩ := hq
  have hW : WD g A s _ _ [(h0, .inr (8, [.ref q, .int (nI n0), .int pl])), (q, .inl (g.2.1 1, 400, .inl f0))] := hW
  refine lv_istore_n (lv' := [(2, .int (atv n0 f0 x)), (0, .ref h0), (1, .int x)]) (pc := 5) hx hb dX8_isDigit_5 rfl hl (by decide) rfl (fun ls hl => ?_)
  refine lv_iload_n (pc := 6) hx hb dX8_isDigit_6 rfl (lv_at hl 0 rfl) ?_
  refine lv_bipush (v := 48) (pc := 7) hx hb dX8_isDigit_7 (by decide) ?_
  refine lv_icmp_lt (tgt := 22) (pc := 9) hx hb dX8_isDigit_9 rfl (fun c2 => ?_) (fun c2 => ?_)
  · refine lv_iconst (v := 0) (pc := 22) hx hb dX8_isDigit_22 (by decide) ?_
    exact e_z X hQ hr hW (u := [(h0, .inr (8, [.ref q, .int (nI n0), .int pl])), (q, .inl (g.2.1 1, 400, .inl f0))]) rfl [0, 1] rfl rfl (⟨(if_neg (fun h9 => by first | exact h9.1 c2 | exact h9.2 c2)).symm, rfl⟩) ⟨Nat.le_of_ble_eq_true rfl, Nat.le_of_ble_eq_true rfl⟩ dX8_isDigit_23
  · have hg := c2
    refine lv_iload_n (pc := 12) hx hb dX8_isDigit_12 rfl (lv_at hl 0 rfl) ?_
    refine lv_bipush (v := 57) (pc := 13) hx hb dX8_isDigit_13 (by decide) ?_
    refine lv_icmp_gt (tgt := 22) (pc := 15) hx hb dX8_isDigit_15 rfl (fun c3 => ?_) (fun c3 => ?_)
    · refine lv_iconst (v := 0) (pc := 22) hx hb dX8_isDigit_22 (by decide) ?_
      exact e_z X hQ hr hW (u := [(h0, .inr (8, [.ref q, .int (nI n0), .int pl])), (q, .inl (g.2.1 1, 400, .inl f0))]) rfl [0, 1] rfl rfl (⟨(if_neg (fun h9 => by first | exact h9.1 c3 | exact h9.2 c3)).symm, rfl⟩) ⟨Nat.le_of_ble_eq_true rfl, Nat.le_of_ble_eq_true rfl⟩ dX8_isDigit_23
    · refine lv_iconst (v := 1) (pc := 18) hx hb dX8_isDigit_18 (by decide) ?_
      refine lv_goto (tgt := 23) (pc := 19) hx hb dX8_isDigit_19 rfl ?_
      exact e_z X hQ hr hW (u := [(h0, .inr (8, [.ref q, .int (nI n0), .int pl])), (q, .inl (g.2.1 1, 400, .inl f0))]) rfl [0, 1] rfl rfl (⟨(if_pos ⟨hg, c3⟩).symm, rfl⟩) ⟨Nat.le_of_ble_eq_true rfl, Nat.le_of_ble_eq_true rfl⟩ dX8_isDigit_23

set_option maxHeartbeats 4000000 in
set_option maxRecDepth 100000 in
theorem C_X8_skipBlanksG (l : Launch) (g : GG) (h0 q : Nat) (f0 : Nat → Int32) (n0 : Nat) (hn0 : n0 ≤ 400) (k0 : Nat) (hk0 : k0 ≤ n0) : MetV l g yX8_skipBlanks cX8_skipBlanks 1 none 1 0 0 [.ref h0] [(h0, .inr (8, [.ref q, .int (nI n0), .int (nI k0)])), (q, .inl (g.2.1 1, 400, .inl f0))] (fun u => u = [(h0, .inr (8, [.ref q, .int (nI n0), .int (nI (skn n0 f0 k0))])), (q, .inl (g.2.1 1, 400, .inl f0))]) := by
  refine MetV.of (own := RX8) rfl (by decide) (Nat.le_of_ble_eq_true rfl) ?_
  intro p e s m below meth c A ls args Q hQ X hr hin hW hl
  have hx := X.1
  have hb := X.2.1
  have hl : lv_has ls 1 [(0, .ref h0)] := hl
  have loop1 : ∀ (fu : Nat) (k : Nat), (n0 < fu + k) → (k ≤ n0) → (skn n0 f0 k0 = skn n0 f0 k) → ∀ (H : Heap) (locs : List Loc) (ls : Array Slot), WD g A s H locs [(h0, .inr (8, [.ref q, .int (nI n0), .int (nI k)])), (q, .inl (g.2.1 1, 400, .inl f0))] → lv_has ls 1 [(0, .ref h0)] → W p l e (RM 1 0 0) s m args below meth c H locs 0 0 Q (F0 m 0 ls []) := by
    intro fu
    induction fu with
    | zero =>
      intro k hm hkn hsk
      exact absurd hm (by omega)
    | succ fu ih1 =>
      intro k hm hkn hsk H locs ls hW hl
      refine lv_aload_n (pc := 0) hx hb dX8_skipBlanks_0 rfl (lv_at hl 0 rfl) ?_
      refine r_get X hW 0 ciX8 2 rfl (by decide) m_39 rfl rfl dX8_skipBlanks_1 ?_
      refine lv_aload_n (pc := 4) hx hb dX8_skipBlanks_4 rfl (lv_at hl 0 rfl) ?_
      refine r_get X hW 0 ciX8 1 rfl (by decide) m_37 rfl rfl dX8_skipBlanks_5 ?_
      refine lv_icmp_ge (tgt := 37) (pc := 8) hx hb dX8_skipBlanks_8 rfl (fun c1 => ?_) (fun c1 => ?_)
      · exact e_v X hQ hr hW (u := [(h0, .inr (8, [.ref q, .int (nI n0), .int (nI k)])), (q, .inl (g.2.1 1, 400, .inl f0))]) [0, 1] rfl rfl (by rw [hsk, skn_0 (ge_t (by omega) (by omega) c1)]) ⟨Nat.le_of_ble_eq_true rfl, Nat.le_of_ble_eq_true rfl⟩ dX8_skipBlanks_37
      · have hlt : k < n0 := ge_f (by omega) (by omega) c1
        refine lv_aload_n (pc := 11) hx hb dX8_skipBlanks_11 rfl (lv_at hl 0 rfl) ?_
        refine lv_aload_n (pc := 12) hx hb dX8_skipBlanks_12 rfl (lv_at hl 0 rfl) ?_
        refine r_get X hW 0 ciX8 2 rfl (by decide) m_39 rfl rfl dX8_skipBlanks_13 ?_
        refine c_Vi (pc := 16) (As := [.int (nI k)]) (rest := []) (wr := []) X hW 0 ciX8 rfl (C_X8_atG l g h0 q f0 n0 hn0 (nI k) (nI k)) vX8_38 [0, 1] [] rfl rfl rfl rfl rfl rfl hl.1 rfl (Nat.le_of_ble_eq_true rfl) ⟨Nat.le_of_ble_eq_true rfl, Nat.le_of_ble_eq_true rfl⟩ ⟨Nat.le_of_ble_eq_true rfl, Nat.le_of_ble_eq_true rfl⟩ dX8_skipBlanks_16 (fun r2 u9 H locs hq hW => ?_)
        obtain ⟨rfl, rfl⟩ := hq
        have hW : WD g A s _ _ [(h0, .inr (8, [.ref q, .int (nI n0), .int (nI k)])), (q, .inl (g.2.1 1, 400, .inl f0))] := hW
        refine lv_bipush (v := 32) (pc := 19) hx hb dX8_skipBlanks_19 (by decide) ?_
        refine lv_icmp_ne (tgt := 37) (pc := 21) hx hb dX8_skipBlanks_21 rfl (fun c3 => ?_) (fun c3 => ?_)
        · exact e_v X hQ hr hW (u := [(h0, .inr (8, [.ref q, .int (nI n0), .int (nI k)])), (q, .inl (g.2.1 1, 400, .inl f0))]) [0, 1] rfl rfl (by rw [hsk, skn_n hlt (fun q => c3 ((atv_k hn0 hlt).trans q))]) ⟨Nat.le_of_ble_eq_true rfl, Nat.le_of_ble_eq_true rfl⟩ dX8_skipBlanks_37
        · have h32 : f0 k = 32 := (atv_k hn0 hlt).symm.trans c3
          refine lv_aload_n (pc := 24) hx hb dX8_skipBlanks_24 rfl (lv_at hl 0 rfl) ?_
          refine lv_dup (pc := 25) hx hb dX8_skipBlanks_25 rfl ?_
          refine r_get X hW 0 ciX8 2 rfl (by decide) m_39 rfl rfl dX8_skipBlanks_26 ?_
          refine lv_iconst (v := 1) (pc := 29) hx hb dX8_skipBlanks_29 (by decide) ?_
          refine lv_iadd (pc := 30) hx hb dX8_skipBlanks_30 ?_
          refine lv_topi (fun v4 ev4 => ?_)
          obtain rfl : v4 = nI (k + 1) := ev4.trans (nI_1 k)
          refine r_put (ws' := [(h0, .inr (8, [.ref q, .int (nI n0), .int (nI (k + 1))])), (q, .inl (g.2.1 1, 400, .inl f0))]) X hW 0 ciX8 2 rfl (by decide) m_39 rfl rfl rfl rfl (Nat.le_of_ble_eq_true rfl) rfl dX8_skipBlanks_31 (fun H locs hW => ?_)
          refine lv_goto (tgt := 0) (pc := 34) hx hb dX8_skipBlanks_34 rfl ?_
          have hW : WD g A s _ _ [(h0, .inr (8, [.ref q, .int (nI n0), .int (nI (k + 1))])), (q, .inl (g.2.1 1, 400, .inl f0))] := hW.pick [0, 1] rfl rfl
          exact ih1 (k + 1) (by omega) (by omega) (hsk.trans (skn_s hlt h32)) _ _ _ hW (lv_sub hl [0] rfl)
  exact loop1 (n0 + 1) k0 (by omega) hk0 rfl _ _ _ hW (lv_sub hl [0] rfl)

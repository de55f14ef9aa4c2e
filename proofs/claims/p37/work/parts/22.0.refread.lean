/-- the reference's tape, byte for byte, as the class's: its bytes without their sign -/
def ub (f : Nat → Int32) (k : Nat) : Int32 := f k &&& 255
theorem atv_ub {n k : Nat} {f : Nat → Int32} (hn : n ≤ 400) (hk : k < n) : atv n (ub f) (nI k) = f (nI k).toNatClampNeg &&& 255 := by rw [nI_clamp (by omega)]; exact atv_k hn hk
theorem atv_no {n k : Nat} {f : Nat → Int32} (hn : n ≤ 400) (hk : k < 2 ^ 31) (h : n ≤ k) : atv n f (nI k) = -1 := if_pos (Or.inr ((nI_leI (by omega) hk).mpr h))
theorem at_bl {n k : Nat} {f : Nat → Int32} (hn : n ≤ 400) (hk : k ≤ n) (h : atv n f (nI k) = 32) : k < n ∧ f k = 32 := by
  rcases Nat.lt_or_ge k n with q | q
  · exact ⟨q, (atv_k hn q).symm.trans h⟩
  · rw [atv_no hn (by omega) q] at h
    exact absurd h (by decide)
theorem skn_n2 {n k : Nat} {f : Nat → Int32} (hn : n ≤ 400) (hk : k ≤ n) (h : ¬ atv n f (nI k) = 32) : skn n f k = k := by
  rcases Nat.lt_or_ge k n with q | q
  · exact skn_n q (fun e9 => h ((atv_k hn q).trans e9))
  · exact skn_0 q
/-- the place of the first fault; a number of the reference's text: whether, where it stands, its value, the fault -/
def fl (i x : Int32) : Int32 := if i = -1 then x else i
def rnr (n : Nat) (f : Nat → Int32) (k : Nat) (lo hi un : Int32) : Int32 := if numNo n f k then 0 else if numBad (nval n f k) lo hi un then 0 else if dg n f (nI (nk2 n f k + 1)) = 0 then 1 else 0
def rna (n : Nat) (f : Nat → Int32) (k : Nat) : Nat := if numNo n f k then skn n f k else nk2 n f k + 1
def rnv (n : Nat) (f : Nat → Int32) (k : Nat) (v : Int32) : Int32 := if numNo n f k then v else nval n f k
def rnf (n : Nat) (f : Nat → Int32) (k : Nat) (lo hi un i : Int32) : Int32 := if numNo n f k then fl i (nI (skn n f k)) else if numBad (nval n f k) lo hi un then fl i (nI (nk2 n f k)) else if dg n f (nI (nk2 n f k + 1)) = 0 then i else fl i (nI (nk2 n f k + 1))
theorem rn_no {n : Nat} {f : Nat → Int32} {k : Nat} {lo hi un v i : Int32} (h : numNo n f k) : rnr n f k lo hi un = 0 ∧ rna n f k = skn n f k ∧ rnv n f k v = v ∧ rnf n f k lo hi un i = fl i (nI (skn n f k)) := ⟨if_pos h, if_pos h, if_pos h, if_pos h⟩
theorem rn_bad {n : Nat} {f : Nat → Int32} {k : Nat} {lo hi un v i : Int32} (h : ¬ numNo n f k) (h2 : numBad (nval n f k) lo hi un) : rnr n f k lo hi un = 0 ∧ rna n f k = nk2 n f k + 1 ∧ rnv n f k v = nval n f k ∧ rnf n f k lo hi un i = fl i (nI (nk2 n f k)) := ⟨by rw [rnr, if_neg h, if_pos h2], if_neg h, if_neg h, by rw [rnf, if_neg h, if_pos h2]⟩
theorem rn_dig {n : Nat} {f : Nat → Int32} {k : Nat} {lo hi un v i : Int32} (h : ¬ numNo n f k) (h2 : ¬ numBad (nval n f k) lo hi un) (h3 : ¬ dg n f (nI (nk2 n f k + 1)) = 0) : rnr n f k lo hi un = 0 ∧ rna n f k = nk2 n f k + 1 ∧ rnv n f k v = nval n f k ∧ rnf n f k lo hi un i = fl i (nI (nk2 n f k + 1)) := ⟨by rw [rnr, if_neg h, if_neg h2, if_neg h3], if_neg h, if_neg h, by rw [rnf, if_neg h, if_neg h2, if_neg h3]⟩
theorem rn_ok {n : Nat} {f : Nat → Int32} {k : Nat} {lo hi un v i : Int32} (h : ¬ numNo n f k) (h2 : ¬ numBad (nval n f k) lo hi un) (h3 : dg n f (nI (nk2 n f k + 1)) = 0) : rnr n f k lo hi un = 1 ∧ rna n f k = nk2 n f k + 1 ∧ rnv n f k v = nval n f k ∧ rnf n f k lo hi un i = i := ⟨by rw [rnr, if_neg h, if_neg h2, if_pos h3], if_neg h, if_neg h, by rw [rnf, if_neg h, if_neg h2, if_pos h3]⟩
theorem rna_le {n k : Nat} {f : Nat → Int32} (hn : n ≤ 400) (hk : k ≤ n) : rna n f k ≤ n := by
  have h1 := skn_le (f := f) hk
  unfold rna
  split
  · omega
  · rename_i h
    have := nk2_le hn hk h
    omega
theorem nI_m1 (k : Nat) : nI (k + 1) - 1 = nI k := by rw [← nI_1]; exact Int32.add_sub_cancel _ _
theorem inv3_no {v a b : Int32} (h : inv3 v a b = 0) : v < a ∨ b < v := by
  by_cases h1 : v < a
  · exact Or.inl h1
  · by_cases h2 : b < v
    · exact Or.inr h2
    · rw [inv3, if_pos ⟨h1, h2⟩] at h
      exact absurd h (by decide)
theorem inv3_yes {v a b : Int32} (h : ¬ inv3 v a b = 0) : ¬ v < a ∧ ¬ b < v := by
  by_cases q : ¬ v < a ∧ ¬ b < v
  · exact q
  · rw [inv3, if_neg q] at h
    exact absurd rfl h
theorem dX12_here_11 : decode cX12_here 11 = .ok (.aload_n 0, 1) := DX12_here _ _ _ rfl
theorem dX12_here_12 : decode cX12_here 12 = .ok (.getfield 9, 3) := DX12_here _ _ _ rfl
theorem dX12_here_15 : decode cX12_here 15 = .ok (.aload_n 0, 1) := DX12_here _ _ _ rfl
theorem dX12_here_16 : decode cX12_here 16 = .ok (.getfield 174, 3) := DX12_here _ _ _ rfl
theorem dX12_here_19 : decode cX12_here 19 = .ok (.baload, 1) := DX12_here _ _ _ rfl
theorem dX12_here_20 : decode cX12_here 20 = .ok (.sipush 255, 3) := DX12_here _ _ _ rfl
theorem dX12_here_23 : decode cX12_here 23 = .ok (.iand, 1) := DX12_here _ _ _ rfl
theorem dX12_here_24 : decode cX12_here 24 = .ok (.goto 4, 3) := DX12_here _ _ _ rfl
theorem m_1463 : (Cond.code yX12_isDigit prog_14_method_11_code 1 (Option.some FieldType.boolean)) ∈ BW := bw (tb7 23 rfl) (by decide +kernel)
theorem dX12_isDigit_0 : decode cX12_isDigit 0 = .ok (.aload_n 0, 1) := DX12_isDigit _ _ _ rfl
theorem dX12_isDigit_1 : decode cX12_isDigit 1 = .ok (.invokevirtual 177, 3) := DX12_isDigit _ _ _ rfl
theorem dX12_isDigit_4 : decode cX12_isDigit 4 = .ok (.bipush 48, 2) := DX12_isDigit _ _ _ rfl
theorem dX12_isDigit_6 : decode cX12_isDigit 6 = .ok (.if_icmp .lt 16, 3) := DX12_isDigit _ _ _ rfl
theorem dX12_isDigit_22 : decode cX12_isDigit 22 = .ok (.iconst 0, 1) := DX12_isDigit _ _ _ rfl
theorem dX12_isDigit_23 : decode cX12_isDigit 23 = .ok (.ireturn, 1) := DX12_isDigit _ _ _ rfl
theorem dX12_isDigit_9 : decode cX12_isDigit 9 = .ok (.aload_n 0, 1) := DX12_isDigit _ _ _ rfl
theorem dX12_isDigit_10 : decode cX12_isDigit 10 = .ok (.invokevirtual 177, 3) := DX12_isDigit _ _ _ rfl
theorem dX12_isDigit_13 : decode cX12_isDigit 13 = .ok (.bipush 57, 2) := DX12_isDigit _ _ _ rfl
theorem dX12_isDigit_15 : decode cX12_isDigit 15 = .ok (.if_icmp .gt 7, 3) := DX12_isDigit _ _ _ rfl
theorem dX12_isDigit_18 : decode cX12_isDigit 18 = .ok (.iconst 1, 1) := DX12_isDigit _ _ _ rfl
theorem dX12_isDigit_19 : decode cX12_isDigit 19 = .ok (.goto 4, 3) := DX12_isDigit _ _ _ rfl
theorem dX12_look_9 : decode cX12_look 9 = .ok (.aload_n 0, 1) := DX12_look _ _ _ rfl
theorem dX12_look_10 : decode cX12_look 10 = .ok (.dup, 1) := DX12_look _ _ _ rfl
theorem dX12_look_11 : decode cX12_look 11 = .ok (.getfield 174, 3) := DX12_look _ _ _ rfl
theorem dX12_look_14 : decode cX12_look 14 = .ok (.iconst 1, 1) := DX12_look _ _ _ rfl
theorem dX12_look_15 : decode cX12_look 15 = .ok (.iadd, 1) := DX12_look _ _ _ rfl
theorem dX12_look_16 : decode cX12_look 16 = .ok (.putfield 174, 3) := DX12_look _ _ _ rfl
theorem dX12_look_19 : decode cX12_look 19 = .ok (.goto (-19), 3) := DX12_look _ _ _ rfl
set_option maxHeartbeats 4000000 in
set_option maxRecDepth 100000 in
theorem C_X12_hereG (l : Launch) (g : GG) (h0 b1 b6 b7 b8 b9 b10 b11 b12 b13 b14 b15 b16 b17 b21 b22 b23 b24 b25 b26 b28 b29 b30 b31 b32 b33 b34 b35 b36 b46 b47 b48 b49 b50 b51 b52 b53 b54 b55 b56 b57 b58 b59 b60 b61 b62 b63 : Nat) (i0 i4 i5 i18 i19 i20 i27 i37 i38 i39 i40 i41 i42 i43 i44 i45 : Int32) (f0 : Nat → Int32) (n0 : Nat) (hn0 : n0 ≤ 400) (k0 : Nat) (hk0 : k0 ≤ n0) : MetI l g yX12_here cX12_here 1 (some .int) 0 0 0 [.ref h0] [(h0, .inr (12, [.int i0, .ref b1, .int (nI n0), .int (nI k0), .int i4, .int i5, .ref b6, .ref b7, .ref b8, .ref b9, .ref b10, .ref b11, .ref b12, .ref b13, .ref b14, .ref b15, .ref b16, .ref b17, .int i18, .int i19, .int i20, .ref b21, .ref b22, .ref b23, .ref b24, .ref b25, .ref b26, .int i27, .ref b28, .ref b29, .ref b30, .ref b31, .ref b32, .ref b33, .ref b34, .ref b35, .ref b36, .int i37, .int i38, .int i39, .int i40, .int i41, .int i42, .int i43, .int i44, .int i45, .ref b46, .ref b47, .ref b48, .ref b49, .ref b50, .ref b51, .ref b52, .ref b53, .ref b54, .ref b55, .ref b56, .ref b57, .ref b58, .ref b59, .ref b60, .ref b61, .ref b62, .ref b63])), (b1, .inl (g.2.1 0, 400, .inl f0))] (fun r u => r = atv n0 (ub f0) (nI k0) ∧ u = [(h0, .inr (12, [.int i0, .ref b1, .int (nI n0), .int (nI k0), .int i4, .int i5, .ref b6, .ref b7, .ref b8, .ref b9, .ref b10, .ref b11, .ref b12, .ref b13, .ref b14, .ref b15, .ref b16, .ref b17, .int i18, .int i19, .int i20, .ref b21, .ref b22, .ref b23, .ref b24, .ref b25, .ref b26, .int i27, .ref b28, .ref b29, .ref b30, .ref b31, .ref b32, .ref b33, .ref b34, .ref b35, .ref b36, .int i37, .int i38, .int i39, .int i40, .int i41, .int i42, .int i43, .int i44, .int i45, .ref b46, .ref b47, .ref b48, .ref b49, .ref b50, .ref b51, .ref b52, .ref b53, .ref b54, .ref b55, .ref b56, .ref b57, .ref b58, .ref b59, .ref b60, .ref b61, .ref b62, .ref b63])), (b1, .inl (g.2.1 0, 400, .inl f0))]) := by
  refine MetI.of (own := RX12) rfl (by decide) (Nat.le_of_ble_eq_true rfl) ?_
  intro p e s m below meth c A ls args Q hQ X hr hin hW hl
  have hx := X.1
  have hb := X.2.1
  have hl : lv_has ls 1 [(0, .ref h0)] := hl
  refine lv_aload_n (pc := 0) hx hb dX12_here_0 rfl (lv_at hl 0 rfl) ?_
  refine r_get X hW 0 ciX12 3 rfl (by decide) m_1234 rfl rfl dX12_here_1 ?_
  refine lv_aload_n (pc := 4) hx hb dX12_here_4 rfl (lv_at hl 0 rfl) ?_
  refine r_get X hW 0 ciX12 2 rfl (by decide) m_1233 rfl rfl dX12_here_5 ?_
  refine lv_icmp_ge (tgt := 27) (pc := 8) hx hb dX12_here_8 rfl (fun c1 => ?_) (fun c1 => ?_)
  · refine lv_iconst (v := (-1)) (pc := 27) hx hb dX12_here_27 (by decide) ?_
    exact e_i X hQ hr hW (u := [(h0, .inr (12, [.int i0, .ref b1, .int (nI n0), .int (nI k0), .int i4, .int i5, .ref b6, .ref b7, .ref b8, .ref b9, .ref b10, .ref b11, .ref b12, .ref b13, .ref b14, .ref b15, .ref b16, .ref b17, .int i18, .int i19, .int i20, .ref b21, .ref b22, .ref b23, .ref b24, .ref b25, .ref b26, .int i27, .ref b28, .ref b29, .ref b30, .ref b31, .ref b32, .ref b33, .ref b34, .ref b35, .ref b36, .int i37, .int i38, .int i39, .int i40, .int i41, .int i42, .int i43, .int i44, .int i45, .ref b46, .ref b47, .ref b48, .ref b49, .ref b50, .ref b51, .ref b52, .ref b53, .ref b54, .ref b55, .ref b56, .ref b57, .ref b58, .ref b59, .ref b60, .ref b61, .ref b62, .ref b63])), (b1, .inl (g.2.1 0, 400, .inl f0))]) [0, 1] rfl rfl (⟨(atv_no hn0 (by omega) (ge_t (by omega) (by omega) c1)).symm, rfl⟩) ⟨Nat.le_of_ble_eq_true rfl, Nat.le_of_ble_eq_true rfl⟩ dX12_here_28
  · have hlt : k0 < n0 := ge_f (by omega) (by omega) c1
    refine lv_aload_n (pc := 11) hx hb dX12_here_11 rfl (lv_at hl 0 rfl) ?_
    refine r_get X hW 0 ciX12 1 rfl (by decide) m_1232 rfl rfl dX12_here_12 ?_
    refine lv_aload_n (pc := 15) hx hb dX12_here_15 rfl (lv_at hl 0 rfl) ?_
    refine r_get X hW 0 ciX12 3 rfl (by decide) m_1234 rfl rfl dX12_here_16 ?_
    refine r_bald X hW 1 rfl (vp_in_nI (by omega) (by decide)) dX12_here_19 ?_
    refine lv_sipush (v := 255) (pc := 20) hx hb dX12_here_20 (by decide) ?_
    refine lv_iand (pc := 23) hx hb dX12_here_23 ?_
    refine lv_goto (tgt := 28) (pc := 24) hx hb dX12_here_24 rfl ?_
    exact e_i X hQ hr hW (u := [(h0, .inr (12, [.int i0, .ref b1, .int (nI n0), .int (nI k0), .int i4, .int i5, .ref b6, .ref b7, .ref b8, .ref b9, .ref b10, .ref b11, .ref b12, .ref b13, .ref b14, .ref b15, .ref b16, .ref b17, .int i18, .int i19, .int i20, .ref b21, .ref b22, .ref b23, .ref b24, .ref b25, .ref b26, .int i27, .ref b28, .ref b29, .ref b30, .ref b31, .ref b32, .ref b33, .ref b34, .ref b35, .ref b36, .int i37, .int i38, .int i39, .int i40, .int i41, .int i42, .int i43, .int i44, .int i45, .ref b46, .ref b47, .ref b48, .ref b49, .ref b50, .ref b51, .ref b52, .ref b53, .ref b54, .ref b55, .ref b56, .ref b57, .ref b58, .ref b59, .ref b60, .ref b61, .ref b62, .ref b63])), (b1, .inl (g.2.1 0, 400, .inl f0))]) [0, 1] rfl rfl (⟨(atv_ub hn0 hlt).symm, rfl⟩) ⟨Nat.le_of_ble_eq_true rfl, Nat.le_of_ble_eq_true rfl⟩ dX12_here_28

set_option maxHeartbeats 4000000 in
set_option maxRecDepth 100000 in
theorem C_X12_isDigitG (l : Launch) (g : GG) (h0 b1 b6 b7 b8 b9 b10 b11 b12 b13 b14 b15 b16 b17 b21 b22 b23 b24 b25 b26 b28 b29 b30 b31 b32 b33 b34 b35 b36 b46 b47 b48 b49 b50 b51 b52 b53 b54 b55 b56 b57 b58 b59 b60 b61 b62 b63 : Nat) (i0 i4 i5 i18 i19 i20 i27 i37 i38 i39 i40 i41 i42 i43 i44 i45 : Int32) (f0 : Nat → Int32) (n0 : Nat) (hn0 : n0 ≤ 400) (k0 : Nat) (hk0 : k0 ≤ n0) : MetI l g yX12_isDigit cX12_isDigit 1 (some .boolean) 1 0 0 [.ref h0] [(h0, .inr (12, [.int i0, .ref b1, .int (nI n0), .int (nI k0), .int i4, .int i5, .ref b6, .ref b7, .ref b8, .ref b9, .ref b10, .ref b11, .ref b12, .ref b13, .ref b14, .ref b15, .ref b16, .ref b17, .int i18, .int i19, .int i20, .ref b21, .ref b22, .ref b23, .ref b24, .ref b25, .ref b26, .int i27, .ref b28, .ref b29, .ref b30, .ref b31, .ref b32, .ref b33, .ref b34, .ref b35, .ref b36, .int i37, .int i38, .int i39, .int i40, .int i41, .int i42, .int i43, .int i44, .int i45, .ref b46, .ref b47, .ref b48, .ref b49, .ref b50, .ref b51, .ref b52, .ref b53, .ref b54, .ref b55, .ref b56, .ref b57, .ref b58, .ref b59, .ref b60, .ref b61, .ref b62, .ref b63])), (b1, .inl (g.2.1 0, 400, .inl f0))] (fun r u => r = dg n0 (ub f0) (nI k0) ∧ u = [(h0, .inr (12, [.int i0, .ref b1, .int (nI n0), .int (nI k0), .int i4, .int i5, .ref b6, .ref b7, .ref b8, .ref b9, .ref b10, .ref b11, .ref b12, .ref b13, .ref b14, .ref b15, .ref b16, .ref b17, .int i18, .int i19, .int i20, .ref b21, .ref b22, .ref b23, .ref b24, .ref b25, .ref b26, .int i27, .ref b28, .ref b29, .ref b30, .ref b31, .ref b32, .ref b33, .ref b34, .ref b35, .ref b36, .int i37, .int i38, .int i39, .int i40, .int i41, .int i42, .int i43, .int i44, .int i45, .ref b46, .ref b47, .ref b48, .ref b49, .ref b50, .ref b51, .ref b52, .ref b53, .ref b54, .ref b55, .ref b56, .ref b57, .ref b58, .ref b59, .ref b60, .ref b61, .ref b62, .ref b63])), (b1, .inl (g.2.1 0, 400, .inl f0))]) := by
  refine MetI.of (own := RX12) rfl (by decide) (Nat.le_of_ble_eq_true rfl) ?_
  intro p e s m below meth c A ls args Q hQ X hr hin hW hl
  have hx := X.1
  have hb := X.2.1
  have hl : lv_has ls 1 [(0, .ref h0)] := hl
  refine lv_aload_n (pc := 0) hx hb dX12_isDigit_0 rfl (lv_at hl 0 rfl) ?_
  refine c_Vi (pc := 1) (As := []) (rest := []) (wr := []) X hW 0 ciX12 rfl (C_X12_hereG l g h0 b1 b6 b7 b8 b9 b10 b11 b12 b13 b14 b15 b16 b17 b21 b22 b23 b24 b25 b26 b28 b29 b30 b31 b32 b33 b34 b35 b36 b46 b47 b48 b49 b50 b51 b52 b53 b54 b55 b56 b57 b58 b59 b60 b61 b62 b63 i0 i4 i5 i18 i19 i20 i27 i37 i38 i39 i40 i41 i42 i43 i44 i45 f0 n0 hn0 k0 (by omega)) vX12_177 [0, 1] [] rfl rfl rfl rfl rfl rfl hl.1 rfl (Nat.le_of_ble_eq_true rfl) ⟨Nat.le_of_ble_eq_true rfl, Nat.le_of_ble_eq_true rfl⟩ ⟨Nat.le_of_ble_eq_true rfl, Nat.le_of_ble_eq_true rfl⟩ dX12_isDigit_1 (fun r1 u9 H locs hq hW => ?_)
  obtain ⟨rfl, rfl⟩ := hq
  have hW : WD g A s _ _ [(h0, .inr (12, [.int i0, .ref b1, .int (nI n0), .int (nI k0), .int i4, .int i5, .ref b6, .ref b7, .ref b8, .ref b9, .ref b10, .ref b11, .ref b12, .ref b13, .ref b14, .ref b15, .ref b16, .ref b17, .int i18, .int i19, .int i20, .ref b21, .ref b22, .ref b23, .ref b24, .ref b25, .ref b26, .int i27, .ref b28, .ref b29, .ref b30, .ref b31, .ref b32, .ref b33, .ref b34, .ref b35, .ref b36, .int i37, .int i38, .int i39, .int i40, .int i41, .int i42, .int i43, .int i44, .int i45, .ref b46, .ref b47, .ref b48, .ref b49, .ref b50, .ref b51, .ref b52, .ref b53, .ref b54, .ref b55, .ref b56, .ref b57, .ref b58, .ref b59, .ref b60, .ref b61, .ref b62, .ref b63])), (b1, .inl (g.2.1 0, 400, .inl f0))] := hW
  refine lv_bipush (v := 48) (pc := 4) hx hb dX12_isDigit_4 (by decide) ?_
  refine lv_icmp_lt (tgt := 22) (pc := 6) hx hb dX12_isDigit_6 rfl (fun c2 => ?_) (fun c2 => ?_)
  · refine lv_iconst (v := 0) (pc := 22) hx hb dX12_isDigit_22 (by decide) ?_
    exact e_z X hQ hr hW (u := [(h0, .inr (12, [.int i0, .ref b1, .int (nI n0), .int (nI k0), .int i4, .int i5, .ref b6, .ref b7, .ref b8, .ref b9, .ref b10, .ref b11, .ref b12, .ref b13, .ref b14, .ref b15, .ref b16, .ref b17, .int i18, .int i19, .int i20, .ref b21, .ref b22, .ref b23, .ref b24, .ref b25, .ref b26, .int i27, .ref b28, .ref b29, .ref b30, .ref b31, .ref b32, .ref b33, .ref b34, .ref b35, .ref b36, .int i37, .int i38, .int i39, .int i40, .int i41, .int i42, .int i43, .int i44, .int i45, .ref b46, .ref b47, .ref b48, .ref b49, .ref b50, .ref b51, .ref b52, .ref b53, .ref b54, .ref b55, .ref b56, .ref b57, .ref b58, .ref b59, .ref b60, .ref b61, .ref b62, .ref b63])), (b1, .inl (g.2.1 0, 400, .inl f0))]) rfl [0, 1] rfl rfl (⟨(if_neg (fun h9 => by first | exact h9.1 c2 | exact h9.2 c2)).symm, rfl⟩) ⟨Nat.le_of_ble_eq_true rfl, Nat.le_of_ble_eq_true rfl⟩ dX12_isDigit_23
  · have hg := c2
    refine lv_aload_n (pc := 9) hx hb dX12_isDigit_9 rfl (lv_at hl 0 rfl) ?_
    refine c_Vi (pc := 10) (As := []) (rest := []) (wr := []) X hW 0 ciX12 rfl (C_X12_hereG l g h0 b1 b6 b7 b8 b9 b10 b11 b12 b13 b14 b15 b16 b17 b21 b22 b23 b24 b25 b26 b28 b29 b30 b31 b32 b33 b34 b35 b36 b46 b47 b48 b49 b50 b51 b52 b53 b54 b55 b56 b57 b58 b59 b60 b61 b62 b63 i0 i4 i5 i18 i19 i20 i27 i37 i38 i39 i40 i41 i42 i43 i44 i45 f0 n0 hn0 k0 (by omega)) vX12_177 [0, 1] [] rfl rfl rfl rfl rfl rfl hl.1 rfl (Nat.le_of_ble_eq_true rfl) ⟨Nat.le_of_ble_eq_true rfl, Nat.le_of_ble_eq_true rfl⟩ ⟨Nat.le_of_ble_eq_true rfl, Nat.le_of_ble_eq_true rfl⟩ dX12_isDigit_10 (fun r3 u9 H locs hq hW => ?_)
    obtain ⟨rfl, rfl⟩ := hq
    have hW : WD g A s _ _ [(h0, .inr (12, [.int i0, .ref b1, .int (nI n0), .int (nI k0), .int i4, .int i5, .ref b6, .ref b7, .ref b8, .ref b9, .ref b10, .ref b11, .ref b12, .ref b13, .ref b14, .ref b15, .ref b16, .ref b17, .int i18, .int i19, .int i20, .ref b21, .ref b22, .ref b23, .ref b24, .ref b25, .ref b26, .int i27, .ref b28, .ref b29, .ref b30, .ref b31, .ref b32, .ref b33, .ref b34, .ref b35, .ref b36, .int i37, .int i38, .int i39, .int i40, .int i41, .int i42, .int i43, .int i44, .int i45, .ref b46, .ref b47, .ref b48, .ref b49, .ref b50, .ref b51, .ref b52, .ref b53, .ref b54, .ref b55, .ref b56, .ref b57, .ref b58, .ref b59, .ref b60, .ref b61, .ref b62, .ref b63])), (b1, .inl (g.2.1 0, 400, .inl f0))] := hW
    refine lv_bipush (v := 57) (pc := 13) hx hb dX12_isDigit_13 (by decide) ?_
    refine lv_icmp_gt (tgt := 22) (pc := 15) hx hb dX12_isDigit_15 rfl (fun c4 => ?_) (fun c4 => ?_)
    · refine lv_iconst (v := 0) (pc := 22) hx hb dX12_isDigit_22 (by decide) ?_
      exact e_z X hQ hr hW (u := [(h0, .inr (12, [.int i0, .ref b1, .int (nI n0), .int (nI k0), .int i4, .int i5, .ref b6, .ref b7, .ref b8, .ref b9, .ref b10, .ref b11, .ref b12, .ref b13, .ref b14, .ref b15, .ref b16, .ref b17, .int i18, .int i19, .int i20, .ref b21, .ref b22, .ref b23, .ref b24, .ref b25, .ref b26, .int i27, .ref b28, .ref b29, .ref b30, .ref b31, .ref b32, .ref b33, .ref b34, .ref b35, .ref b36, .int i37, .int i38, .int i39, .int i40, .int i41, .int i42, .int i43, .int i44, .int i45, .ref b46, .ref b47, .ref b48, .ref b49, .ref b50, .ref b51, .ref b52, .ref b53, .ref b54, .ref b55, .ref b56, .ref b57, .ref b58, .ref b59, .ref b60, .ref b61, .ref b62, .ref b63])), (b1, .inl (g.2.1 0, 400, .inl f0))]) rfl [0, 1] rfl rfl (⟨(if_neg (fun h9 => by first | exact h9.1 c4 | exact h9.2 c4)).symm, rfl⟩) ⟨Nat.le_of_ble_eq_true rfl, Nat.le_of_ble_eq_true rfl⟩ dX12_isDigit_23
    · refine lv_iconst (v := 1) (pc := 18) hx hb dX12_isDigit_18 (by decide) ?_
      refine lv_goto (tgt := 23) (pc := 19) hx hb dX12_isDigit_19 rfl ?_
      exact e_z X hQ hr hW (u := [(h0, .inr (12, [.int i0, .ref b1, .int (nI n0), .int (nI k0), .int i4, .int i5, .ref b6, .ref b7, .ref b8, .ref b9, .ref b10, .ref b11, .ref b12, .ref b13, .ref b14, .ref b15, .ref b16, .ref b17, .int i18, .int i19, .int i20, .ref b21, .ref b22, .ref b23, .ref b24, .ref b25, .ref b26, .int i27, .ref b28, .ref b29, .ref b30, .ref b31, .ref b32, .ref b33, .ref b34, .ref b35, .ref b36, .int i37, .int i38, .int i39, .int i40, .int i41, .int i42, .int i43, .int i44, .int i45, .ref b46, .ref b47, .ref b48, .ref b49, .ref b50, .ref b51, .ref b52, .ref b53, .ref b54, .ref b55, .ref b56, .ref b57, .ref b58, .ref b59, .ref b60, .ref b61, .ref b62, .ref b63])), (b1, .inl (g.2.1 0, 400, .inl f0))]) rfl [0, 1] rfl rfl (⟨(if_pos ⟨hg, c4⟩).symm, rfl⟩) ⟨Nat.le_of_ble_eq_true rfl, Nat.le_of_ble_eq_true rfl⟩ dX12_isDigit_23

set_option maxHeartbeats 4000000 in
set_option maxRecDepth 100000 in
theorem C_X12_lookG (l : Launch) (g : GG) (h0 b1 b6 b7 b8 b9 b10 b11 b12 b13 b14 b15 b16 b17 b21 b22 b23 b24 b25 b26 b28 b29 b30 b31 b32 b33 b34 b35 b36 b46 b47 b48 b49 b50 b51 b52 b53 b54 b55 b56 b57 b58 b59 b60 b61 b62 b63 : Nat) (i0 i4 i5 i18 i19 i20 i27 i37 i38 i39 i40 i41 i42 i43 i44 i45 : Int32) (f0 : Nat → Int32) (n0 : Nat) (hn0 : n0 ≤ 400) (k0 : Nat) (hk0 : k0 ≤ n0) : MetI l g yX12_look cX12_look 1 (some .int) 1 0 0 [.ref h0] [(h0, .inr (12, [.int i0, .ref b1, .int (nI n0), .int (nI k0), .int i4, .int i5, .ref b6, .ref b7, .ref b8, .ref b9, .ref b10, .ref b11, .ref b12, .ref b13, .ref b14, .ref b15, .ref b16, .ref b17, .int i18, .int i19, .int i20, .ref b21, .ref b22, .ref b23, .ref b24, .ref b25, .ref b26, .int i27, .ref b28, .ref b29, .ref b30, .ref b31, .ref b32, .ref b33, .ref b34, .ref b35, .ref b36, .int i37, .int i38, .int i39, .int i40, .int i41, .int i42, .int i43, .int i44, .int i45, .ref b46, .ref b47, .ref b48, .ref b49, .ref b50, .ref b51, .ref b52, .ref b53, .ref b54, .ref b55, .ref b56, .ref b57, .ref b58, .ref b59, .ref b60, .ref b61, .ref b62, .ref b63])), (b1, .inl (g.2.1 0, 400, .inl f0))] (fun r u => r = atv n0 (ub f0) (nI (skn n0 (ub f0) k0)) ∧ u = [(h0, .inr (12, [.int i0, .ref b1, .int (nI n0), .int (nI (skn n0 (ub f0) k0)), .int i4, .int i5, .ref b6, .ref b7, .ref b8, .ref b9, .ref b10, .ref b11, .ref b12, .ref b13, .ref b14, .ref b15, .ref b16, .ref b17, .int i18, .int i19, .int i20, .ref b21, .ref b22, .ref b23, .ref b24, .ref b25, .ref b26, .int i27, .ref b28, .ref b29, .ref b30, .ref b31, .ref b32, .ref b33, .ref b34, .ref b35, .ref b36, .int i37, .int i38, .int i39, .int i40, .int i41, .int i42, .int i43, .int i44, .int i45, .ref b46, .ref b47, .ref b48, .ref b49, .ref b50, .ref b51, .ref b52, .ref b53, .ref b54, .ref b55, .ref b56, .ref b57, .ref b58, .ref b59, .ref b60, .ref b61, .ref b62, .ref b63])), (b1, .inl (g.2.1 0, 400, .inl f0))]) := by
  refine MetI.of (own := RX12) rfl (by decide) (Nat.le_of_ble_eq_true rfl) ?_
  intro p e s m below meth c A ls args Q hQ X hr hin hW hl
  have hx := X.1
  have hb := X.2.1
  have hl : lv_has ls 1 [(0, .ref h0)] := hl
  have loop1 : ∀ (fu : Nat) (k : Nat), (n0 < fu + k) → (k ≤ n0) → (skn n0 (ub f0) k0 = skn n0 (ub f0) k) → ∀ (H : Heap) (locs : List Loc) (ls : Array Slot), WD g A s H locs [(h0, .inr (12, [.int i0, .ref b1, .int (nI n0), .int (nI k), .int i4, .int i5, .ref b6, .ref b7, .ref b8, .ref b9, .ref b10, .ref b11, .ref b12, .ref b13, .ref b14, .ref b15, .ref b16, .ref b17, .int i18, .int i19, .int i20, .ref b21, .ref b22, .ref b23, .ref b24, .ref b25, .ref b26, .int i27, .ref b28, .ref b29, .ref b30, .ref b31, .ref b32, .ref b33, .ref b34, .ref b35, .ref b36, .int i37, .int i38, .int i39, .int i40, .int i41, .int i42, .int i43, .int i44, .int i45, .ref b46, .ref b47, .ref b48, .ref b49, .ref b50, .ref b51, .ref b52, .ref b53, .ref b54, .ref b55, .ref b56, .ref b57, .ref b58, .ref b59, .ref b60, .ref b61, .ref b62, .ref b63])), (b1, .inl (g.2.1 0, 400, .inl f0))] → lv_has ls 1 [(0, .ref h0)] → W p l e (RM 1 0 0) s m args below meth c H locs 0 0 Q (F0 m 0 ls []) := by
    intro fu
    induction fu with
    | zero =>
      intro k hm hkn hsk
      exact absurd hm (by omega)
    | succ fu ih1 =>
      intro k hm hkn hsk H locs ls hW hl
      refine lv_aload_n (pc := 0) hx hb dX12_look_0 rfl (lv_at hl 0 rfl) ?_
      refine c_Vi (pc := 1) (As := []) (rest := []) (wr := []) X hW 0 ciX12 rfl (C_X12_hereG l g h0 b1 b6 b7 b8 b9 b10 b11 b12 b13 b14 b15 b16 b17 b21 b22 b23 b24 b25 b26 b28 b29 b30 b31 b32 b33 b34 b35 b36 b46 b47 b48 b49 b50 b51 b52 b53 b54 b55 b56 b57 b58 b59 b60 b61 b62 b63 i0 i4 i5 i18 i19 i20 i27 i37 i38 i39 i40 i41 i42 i43 i44 i45 f0 n0 hn0 k (by omega)) vX12_177 [0, 1] [] rfl rfl rfl rfl rfl rfl hl.1 rfl (Nat.le_of_ble_eq_true rfl) ⟨Nat.le_of_ble_eq_true rfl, Nat.le_of_ble_eq_true rfl⟩ ⟨Nat.le_of_ble_eq_true rfl, Nat.le_of_ble_eq_true rfl⟩ dX12_look_1 (fun r1 u9 H locs hq hW => ?_)
      obtain ⟨rfl, rfl⟩ := hq
      have hW : WD g A s _ _ [(h0, .inr (12, [.int i0, .ref b1, .int (nI n0), .int (nI k), .int i4, .int i5, .ref b6, .ref b7, .ref b8, .ref b9, .ref b10, .ref b11, .ref b12, .ref b13, .ref b14, .ref b15, .ref b16, .ref b17, .int i18, .int i19, .int i20, .ref b21, .ref b22, .ref b23, .ref b24, .ref b25, .ref b26, .int i27, .ref b28, .ref b29, .ref b30, .ref b31, .ref b32, .ref b33, .ref b34, .ref b35, .ref b36, .int i37, .int i38, .int i39, .int i40, .int i41, .int i42, .int i43, .int i44, .int i45, .ref b46, .ref b47, .ref b48, .ref b49, .ref b50, .ref b51, .ref b52, .ref b53, .ref b54, .ref b55, .ref b56, .ref b57, .ref b58, .ref b59, .ref b60, .ref b61, .ref b62, .ref b63])), (b1, .inl (g.2.1 0, 400, .inl f0))] := hW
      refine lv_bipush (v := 32) (pc := 4) hx hb dX12_look_4 (by decide) ?_
      refine lv_icmp_ne (tgt := 22) (pc := 6) hx hb dX12_look_6 rfl (fun c2 => ?_) (fun c2 => ?_)
      · refine lv_aload_n (pc := 22) hx hb dX12_look_22 rfl (lv_at hl 0 rfl) ?_
        refine c_Vi (pc := 23) (As := []) (rest := []) (wr := []) X hW 0 ciX12 rfl (C_X12_hereG l g h0 b1 b6 b7 b8 b9 b10 b11 b12 b13 b14 b15 b16 b17 b21 b22 b23 b24 b25 b26 b28 b29 b30 b31 b32 b33 b34 b35 b36 b46 b47 b48 b49 b50 b51 b52 b53 b54 b55 b56 b57 b58 b59 b60 b61 b62 b63 i0 i4 i5 i18 i19 i20 i27 i37 i38 i39 i40 i41 i42 i43 i44 i45 f0 n0 hn0 k (by omega)) vX12_177 [0, 1] [] rfl rfl rfl rfl rfl rfl hl.1 rfl (Nat.le_of_ble_eq_true rfl) ⟨Nat.le_of_ble_eq_true rfl, Nat.le_of_ble_eq_true rfl⟩ ⟨Nat.le_of_ble_eq_true rfl, Nat.le_of_ble_eq_true rfl⟩ dX12_look_23 (fun r3 u9 H locs hq hW => ?_)
        obtain ⟨rfl, rfl⟩ := hq
        have hW : WD g A s _ _ [(h0, .inr (12, [.int i0, .ref b1, .int (nI n0), .int (nI k), .int i4, .int i5, .ref b6, .ref b7, .ref b8, .ref b9, .ref b10, .ref b11, .ref b12, .ref b13, .ref b14, .ref b15, .ref b16, .ref b17, .int i18, .int i19, .int i20, .ref b21, .ref b22, .ref b23, .ref b24, .ref b25, .ref b26, .int i27, .ref b28, .ref b29, .ref b30, .ref b31, .ref b32, .ref b33, .ref b34, .ref b35, .ref b36, .int i37, .int i38, .int i39, .int i40, .int i41, .int i42, .int i43, .int i44, .int i45, .ref b46, .ref b47, .ref b48, .ref b49, .ref b50, .ref b51, .ref b52, .ref b53, .ref b54, .ref b55, .ref b56, .ref b57, .ref b58, .ref b59, .ref b60, .ref b61, .ref b62, .ref b63])), (b1, .inl (g.2.1 0, 400, .inl f0))] := hW
        exact e_i X hQ hr hW (u := [(h0, .inr (12, [.int i0, .ref b1, .int (nI n0), .int (nI k), .int i4, .int i5, .ref b6, .ref b7, .ref b8, .ref b9, .ref b10, .ref b11, .ref b12, .ref b13, .ref b14, .ref b15, .ref b16, .ref b17, .int i18, .int i19, .int i20, .ref b21, .ref b22, .ref b23, .ref b24, .ref b25, .ref b26, .int i27, .ref b28, .ref b29, .ref b30, .ref b31, .ref b32, .ref b33, .ref b34, .ref b35, .ref b36, .int i37, .int i38, .int i39, .int i40, .int i41, .int i42, .int i43, .int i44, .int i45, .ref b46, .ref b47, .ref b48, .ref b49, .ref b50, .ref b51, .ref b52, .ref b53, .ref b54, .ref b55, .ref b56, .ref b57, .ref b58, .ref b59, .ref b60, .ref b61, .ref b62, .ref b63])), (b1, .inl (g.2.1 0, 400, .inl f0))]) [0, 1] rfl rfl (⟨by rw [hsk, skn_n2 hn0 hkn c2], by rw [hsk, skn_n2 hn0 hkn c2]⟩) ⟨Nat.le_of_ble_eq_true rfl, Nat.le_of_ble_eq_true rfl⟩ dX12_look_26
      · obtain ⟨hlt, h32⟩ := at_bl hn0 hkn c2
        refine lv_aload_n (pc := 9) hx hb dX12_look_9 rfl (lv_at hl 0 rfl) ?_
        refine lv_dup (pc := 10) hx hb dX12_look_10 rfl ?_
        refine r_get X hW 0 ciX12 3 rfl (by decide) m_1234 rfl rfl dX12_look_11 ?_
        refine lv_iconst (v := 1) (pc := 14) hx hb dX12_look_14 (by decide) ?_
        refine lv_iadd (pc := 15) hx hb dX12_look_15 ?_
        refine lv_topi (fun v4 ev4 => ?_)
        obtain rfl : v4 = nI (k + 1) := ev4.trans (nI_1 k)
        refine r_put (ws' := [(h0, .inr (12, [.int i0, .ref b1, .int (nI n0), .int (nI (k + 1)), .int i4, .int i5, .ref b6, .ref b7, .ref b8, .ref b9, .ref b10, .ref b11, .ref b12, .ref b13, .ref b14, .ref b15, .ref b16, .ref b17, .int i18, .int i19, .int i20, .ref b21, .ref b22, .ref b23, .ref b24, .ref b25, .ref b26, .int i27, .ref b28, .ref b29, .ref b30, .ref b31, .ref b32, .ref b33, .ref b34, .ref b35, .ref b36, .int i37, .int i38, .int i39, .int i40, .int i41, .int i42, .int i43, .int i44, .int i45, .ref b46, .ref b47, .ref b48, .ref b49, .ref b50, .ref b51, .ref b52, .ref b53, .ref b54, .ref b55, .ref b56, .ref b57, .ref b58, .ref b59, .ref b60, .ref b61, .ref b62, .ref b63])), (b1, .inl (g.2.1 0, 400, .inl f0))]) X hW 0 ciX12 3 rfl (by decide) m_1234 rfl rfl rfl rfl (Nat.le_of_ble_eq_true rfl) rfl dX12_look_16 (fun H locs hW => ?_)
        refine lv_goto (tgt := 0) (pc := 19) hx hb dX12_look_19 rfl ?_
        have hW : WD g A s _ _ [(h0, .inr (12, [.int i0, .ref b1, .int (nI n0), .int (nI (k + 1)), .int i4, .int i5, .ref b6, .ref b7, .ref b8, .ref b9, .ref b10, .ref b11, .ref b12, .ref b13, .ref b14, .ref b15, .ref b16, .ref b17, .int i18, .int i19, .int i20, .ref b21, .ref b22, .ref b23, .ref b24, .ref b25, .ref b26, .int i27, .ref b28, .ref b29, .ref b30, .ref b31, .ref b32, .ref b33, .ref b34, .ref b35, .ref b36, .int i37, .int i38, .int i39, .int i40, .int i41, .int i42, .int i43, .int i44, .int i45, .ref b46, .ref b47, .ref b48, .ref b49, .ref b50, .ref b51, .ref b52, .ref b53, .ref b54, .ref b55, .ref b56, .ref b57, .ref b58, .ref b59, .ref b60, .ref b61, .ref b62, .ref b63])), (b1, .inl (g.2.1 0, 400, .inl f0))] := hW.pick [0, 1] rfl rfl
        exact ih1 (k + 1) (by omega) (by omega) (hsk.trans (skn_s hlt h32)) _ _ _ hW (lv_sub hl [0] rfl)
  exact loop1 (n0 + 1) k0 (by omega) hk0 rfl _ _ _ hW (lv_sub hl [0] rfl)

set_option maxHeartbeats 4000000 in
set_option maxRecDepth 100000 in
theorem C_X12_failsG (l : Launch) (g : GG) (h0 b1 b6 b7 b8 b9 b10 b11 b12 b13 b14 b15 b16 b17 b21 b22 b23 b24 b25 b26 b28 b29 b30 b31 b32 b33 b34 b35 b36 b46 b47 b48 b49 b50 b51 b52 b53 b54 b55 b56 b57 b58 b59 b60 b61 b62 b63 : Nat) (i0 i2 i3 i4 i5 i18 i19 i20 i27 i37 i38 i39 i40 i41 i42 i43 i44 i45 : Int32) (x : Int32) : MetI l g yX12_fails cX12_fails 2 (some .boolean) 0 0 0 [.ref h0, .int x] [(h0, .inr (12, [.int i0, .ref b1, .int i2, .int i3, .int i4, .int i5, .ref b6, .ref b7, .ref b8, .ref b9, .ref b10, .ref b11, .ref b12, .ref b13, .ref b14, .ref b15, .ref b16, .ref b17, .int i18, .int i19, .int i20, .ref b21, .ref b22, .ref b23, .ref b24, .ref b25, .ref b26, .int i27, .ref b28, .ref b29, .ref b30, .ref b31, .ref b32, .ref b33, .ref b34, .ref b35, .ref b36, .int i37, .int i38, .int i39, .int i40, .int i41, .int i42, .int i43, .int i44, .int i45, .ref b46, .ref b47, .ref b48, .ref b49, .ref b50, .ref b51, .ref b52, .ref b53, .ref b54, .ref b55, .ref b56, .ref b57, .ref b58, .ref b59, .ref b60, .ref b61, .ref b62, .ref b63]))] (fun r u => r = 0 ∧ u = [(h0, .inr (12, [.int i0, .ref b1, .int i2, .int i3, .int (fl i4 x), .int i5, .ref b6, .ref b7, .ref b8, .ref b9, .ref b10, .ref b11, .ref b12, .ref b13, .ref b14, .ref b15, .ref b16, .ref b17, .int i18, .int i19, .int i20, .ref b21, .ref b22, .ref b23, .ref b24, .ref b25, .ref b26, .int i27, .ref b28, .ref b29, .ref b30, .ref b31, .ref b32, .ref b33, .ref b34, .ref b35, .ref b36, .int i37, .int i38, .int i39, .int i40, .int i41, .int i42, .int i43, .int i44, .int i45, .ref b46, .ref b47, .ref b48, .ref b49, .ref b50, .ref b51, .ref b52, .ref b53, .ref b54, .ref b55, .ref b56, .ref b57, .ref b58, .ref b59, .ref b60, .ref b61, .ref b62, .ref b63]))]) := by
  refine MetI.of (own := RX12) rfl (by decide) (Nat.le_of_ble_eq_true rfl) ?_
  intro p e s m below meth c A ls args Q hQ X hr hin hW hl
  have hx := X.1
  have hb := X.2.1
  have hl : lv_has ls 2 [(0, .ref h0), (1, .int x)] := hl
  refine lv_aload_n (pc := 0) hx hb dX12_fails_0 rfl (lv_at hl 0 rfl) ?_
  refine r_get X hW 0 ciX12 4 rfl (by decide) m_1235 rfl rfl dX12_fails_1 ?_
  refine lv_iconst (v := (-1)) (pc := 4) hx hb dX12_fails_4 (by decide) ?_
  refine lv_icmp_ne (tgt := 13) (pc := 5) hx hb dX12_fails_5 rfl (fun c1 => ?_) (fun c1 => ?_)
  · refine lv_iconst (v := 0) (pc := 13) hx hb dX12_fails_13 (by decide) ?_
    exact e_z X hQ hr hW (u := [(h0, .inr (12, [.int i0, .ref b1, .int i2, .int i3, .int i4, .int i5, .ref b6, .ref b7, .ref b8, .ref b9, .ref b10, .ref b11, .ref b12, .ref b13, .ref b14, .ref b15, .ref b16, .ref b17, .int i18, .int i19, .int i20, .ref b21, .ref b22, .ref b23, .ref b24, .ref b25, .ref b26, .int i27, .ref b28, .ref b29, .ref b30, .ref b31, .ref b32, .ref b33, .ref b34, .ref b35, .ref b36, .int i37, .int i38, .int i39, .int i40, .int i41, .int i42, .int i43, .int i44, .int i45, .ref b46, .ref b47, .ref b48, .ref b49, .ref b50, .ref b51, .ref b52, .ref b53, .ref b54, .ref b55, .ref b56, .ref b57, .ref b58, .ref b59, .ref b60, .ref b61, .ref b62, .ref b63]))]) rfl [0] rfl rfl (⟨rfl, by rw [fl, if_neg c1]⟩) ⟨Nat.le_of_ble_eq_true rfl, Nat.le_of_ble_eq_true rfl⟩ dX12_fails_14
  · refine lv_aload_n (pc := 8) hx hb dX12_fails_8 rfl (lv_at hl 0 rfl) ?_
    refine lv_iload_n (pc := 9) hx hb dX12_fails_9 rfl (lv_at hl 1 rfl) ?_
    refine r_put (ws' := [(h0, .inr (12, [.int i0, .ref b1, .int i2, .int i3, .int x, .int i5, .ref b6, .ref b7, .ref b8, .ref b9, .ref b10, .ref b11, .ref b12, .ref b13, .ref b14, .ref b15, .ref b16, .ref b17, .int i18, .int i19, .int i20, .ref b21, .ref b22, .ref b23, .ref b24, .ref b25, .ref b26, .int i27, .ref b28, .ref b29, .ref b30, .ref b31, .ref b32, .ref b33, .ref b34, .ref b35, .ref b36, .int i37, .int i38, .int i39, .int i40, .int i41, .int i42, .int i43, .int i44, .int i45, .ref b46, .ref b47, .ref b48, .ref b49, .ref b50, .ref b51, .ref b52, .ref b53, .ref b54, .ref b55, .ref b56, .ref b57, .ref b58, .ref b59, .ref b60, .ref b61, .ref b62, .ref b63]))]) X hW 0 ciX12 4 rfl (by decide) m_1235 rfl rfl rfl rfl (Nat.le_of_ble_eq_true rfl) rfl dX12_fails_10 (fun H locs hW => ?_)
    refine lv_iconst (v := 0) (pc := 13) hx hb dX12_fails_13 (by decide) ?_
    exact e_z X hQ hr hW (u := [(h0, .inr (12, [.int i0, .ref b1, .int i2, .int i3, .int x, .int i5, .ref b6, .ref b7, .ref b8, .ref b9, .ref b10, .ref b11, .ref b12, .ref b13, .ref b14, .ref b15, .ref b16, .ref b17, .int i18, .int i19, .int i20, .ref b21, .ref b22, .ref b23, .ref b24, .ref b25, .ref b26, .int i27, .ref b28, .ref b29, .ref b30, .ref b31, .ref b32, .ref b33, .ref b34, .ref b35, .ref b36, .int i37, .int i38, .int i39, .int i40, .int i41, .int i42, .int i43, .int i44, .int i45, .ref b46, .ref b47, .ref b48, .ref b49, .ref b50, .ref b51, .ref b52, .ref b53, .ref b54, .ref b55, .ref b56, .ref b57, .ref b58, .ref b59, .ref b60, .ref b61, .ref b62, .ref b63]))]) rfl [0] rfl rfl (⟨rfl, by rw [fl, if_pos c1]⟩) ⟨Nat.le_of_ble_eq_true rfl, Nat.le_of_ble_eq_true rfl⟩ dX12_fails_14

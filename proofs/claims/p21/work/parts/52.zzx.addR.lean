theorem dX12_mayCall_8 : decode cX12_mayCall 8 = .ok (.aload_n 0, 1) := DX12_mayCall _ _ _ rfl
theorem dX12_mayCall_9 : decode cX12_mayCall 9 = .ok (.getfield 55, 3) := DX12_mayCall _ _ _ rfl
theorem dX12_mayCall_12 : decode cX12_mayCall 12 = .ok (.iload_n 3, 1) := DX12_mayCall _ _ _ rfl
theorem dX12_mayCall_13 : decode cX12_mayCall 13 = .ok (.if_icmp .eq 19, 3) := DX12_mayCall _ _ _ rfl
theorem dX12_mayCall_32 : decode cX12_mayCall 32 = .ok (.iconst 1, 1) := DX12_mayCall _ _ _ rfl
theorem dX12_mayCall_33 : decode cX12_mayCall 33 = .ok (.ireturn, 1) := DX12_mayCall _ _ _ rfl
theorem dX12_mayCall_24 : decode cX12_mayCall 24 = .ok (.aload_n 0, 1) := DX12_mayCall _ _ _ rfl
theorem dX12_mayCall_25 : decode cX12_mayCall 25 = .ok (.getfield 55, 3) := DX12_mayCall _ _ _ rfl
theorem dX12_mayCall_28 : decode cX12_mayCall 28 = .ok (.iload_n 2, 1) := DX12_mayCall _ _ _ rfl
theorem dX12_mayCall_29 : decode cX12_mayCall 29 = .ok (.if_icmp .ne 5, 3) := DX12_mayCall _ _ _ rfl
theorem dX12_hasLine_0 : decode cX12_hasLine 0 = .ok (.iconst 0, 1) := DX12_hasLine _ _ _ rfl
theorem dX12_hasLine_1 : decode cX12_hasLine 1 = .ok (.istore 4, 2) := DX12_hasLine _ _ _ rfl
theorem dX12_hasLine_3 : decode cX12_hasLine 3 = .ok (.iload 4, 2) := DX12_hasLine _ _ _ rfl
theorem dX12_hasLine_5 : decode cX12_hasLine 5 = .ok (.aload_n 0, 1) := DX12_hasLine _ _ _ rfl
theorem dX12_hasLine_6 : decode cX12_hasLine 6 = .ok (.getfield 17, 3) := DX12_hasLine _ _ _ rfl
theorem dX12_hasLine_9 : decode cX12_hasLine 9 = .ok (.iload_n 1, 1) := DX12_hasLine _ _ _ rfl
theorem dX12_hasLine_10 : decode cX12_hasLine 10 = .ok (.iaload, 1) := DX12_hasLine _ _ _ rfl
theorem dX12_hasLine_11 : decode cX12_hasLine 11 = .ok (.if_icmp .ge 64, 3) := DX12_hasLine _ _ _ rfl
theorem dX12_hasLine_75 : decode cX12_hasLine 75 = .ok (.iconst 0, 1) := DX12_hasLine _ _ _ rfl
theorem dX12_hasLine_76 : decode cX12_hasLine 76 = .ok (.ireturn, 1) := DX12_hasLine _ _ _ rfl
theorem dX12_hasLine_14 : decode cX12_hasLine 14 = .ok (.bipush 12, 2) := DX12_hasLine _ _ _ rfl
theorem dX12_hasLine_16 : decode cX12_hasLine 16 = .ok (.iload_n 1, 1) := DX12_hasLine _ _ _ rfl
theorem dX12_hasLine_17 : decode cX12_hasLine 17 = .ok (.imul, 1) := DX12_hasLine _ _ _ rfl
theorem dX12_hasLine_18 : decode cX12_hasLine 18 = .ok (.iload 4, 2) := DX12_hasLine _ _ _ rfl
theorem dX12_hasLine_20 : decode cX12_hasLine 20 = .ok (.iadd, 1) := DX12_hasLine _ _ _ rfl
theorem dX12_hasLine_21 : decode cX12_hasLine 21 = .ok (.istore 5, 2) := DX12_hasLine _ _ _ rfl
theorem dX12_hasLine_23 : decode cX12_hasLine 23 = .ok (.aload_n 0, 1) := DX12_hasLine _ _ _ rfl
theorem dX12_hasLine_24 : decode cX12_hasLine 24 = .ok (.getfield 32, 3) := DX12_hasLine _ _ _ rfl
theorem dX12_hasLine_27 : decode cX12_hasLine 27 = .ok (.iload 5, 2) := DX12_hasLine _ _ _ rfl
theorem dX12_hasLine_29 : decode cX12_hasLine 29 = .ok (.iaload, 1) := DX12_hasLine _ _ _ rfl
theorem dX12_hasLine_30 : decode cX12_hasLine 30 = .ok (.iload_n 2, 1) := DX12_hasLine _ _ _ rfl
theorem dX12_hasLine_31 : decode cX12_hasLine 31 = .ok (.if_icmp .ne 14, 3) := DX12_hasLine _ _ _ rfl
theorem dX12_hasLine_45 : decode cX12_hasLine 45 = .ok (.aload_n 0, 1) := DX12_hasLine _ _ _ rfl
theorem dX12_hasLine_46 : decode cX12_hasLine 46 = .ok (.getfield 32, 3) := DX12_hasLine _ _ _ rfl
theorem dX12_hasLine_49 : decode cX12_hasLine 49 = .ok (.iload 5, 2) := DX12_hasLine _ _ _ rfl
theorem dX12_hasLine_51 : decode cX12_hasLine 51 = .ok (.iaload, 1) := DX12_hasLine _ _ _ rfl
theorem dX12_hasLine_52 : decode cX12_hasLine 52 = .ok (.iload_n 3, 1) := DX12_hasLine _ _ _ rfl
theorem dX12_hasLine_53 : decode cX12_hasLine 53 = .ok (.if_icmp .ne 16, 3) := DX12_hasLine _ _ _ rfl
theorem dX12_hasLine_69 : decode cX12_hasLine 69 = .ok (.iinc 4 1, 3) := DX12_hasLine _ _ _ rfl
theorem dX12_hasLine_72 : decode cX12_hasLine 72 = .ok (.goto (-69), 3) := DX12_hasLine _ _ _ rfl
theorem dX12_hasLine_56 : decode cX12_hasLine 56 = .ok (.aload_n 0, 1) := DX12_hasLine _ _ _ rfl
theorem dX12_hasLine_57 : decode cX12_hasLine 57 = .ok (.getfield 35, 3) := DX12_hasLine _ _ _ rfl
theorem dX12_hasLine_60 : decode cX12_hasLine 60 = .ok (.iload 5, 2) := DX12_hasLine _ _ _ rfl
theorem dX12_hasLine_62 : decode cX12_hasLine 62 = .ok (.iaload, 1) := DX12_hasLine _ _ _ rfl
theorem dX12_hasLine_63 : decode cX12_hasLine 63 = .ok (.iload_n 2, 1) := DX12_hasLine _ _ _ rfl
theorem dX12_hasLine_64 : decode cX12_hasLine 64 = .ok (.if_icmp .ne 5, 3) := DX12_hasLine _ _ _ rfl
theorem dX12_hasLine_67 : decode cX12_hasLine 67 = .ok (.iconst 1, 1) := DX12_hasLine _ _ _ rfl
theorem dX12_hasLine_68 : decode cX12_hasLine 68 = .ok (.ireturn, 1) := DX12_hasLine _ _ _ rfl
theorem dX12_hasLine_34 : decode cX12_hasLine 34 = .ok (.aload_n 0, 1) := DX12_hasLine _ _ _ rfl
theorem dX12_hasLine_35 : decode cX12_hasLine 35 = .ok (.getfield 35, 3) := DX12_hasLine _ _ _ rfl
theorem dX12_hasLine_38 : decode cX12_hasLine 38 = .ok (.iload 5, 2) := DX12_hasLine _ _ _ rfl
theorem dX12_hasLine_40 : decode cX12_hasLine 40 = .ok (.iaload, 1) := DX12_hasLine _ _ _ rfl
theorem dX12_hasLine_41 : decode cX12_hasLine 41 = .ok (.iload_n 3, 1) := DX12_hasLine _ _ _ rfl
theorem dX12_hasLine_42 : decode cX12_hasLine 42 = .ok (.if_icmp .eq 25, 3) := DX12_hasLine _ _ _ rfl
def F_X12_mayCallY1  : Int32 := (1 : Int32)
set_option maxHeartbeats 4000000 in
set_option maxRecDepth 100000 in
theorem K_X12_mayCallY1 (l : Launch) (g : GG) (h0 : Nat) (vs : List Value) (b7 : Nat) (rL : Nat → Int32) (b12 : Nat) (rA : Nat → Int32) (b13 : Nat) (rB : Nat → Int32) (b14 : Nat) (rF : Nat → Int32) (b15 : Nat) (rT : Nat → Int32) (b16 : Nat) (rW : Nat → Int32) (b17 : Nat) (rO : Nat → Int32) (lc : Nat) (i : Nat) (a : Nat) (b : Nat) (h : Int32) (mA : Int32) (mB : Int32) (hlen : vs.length = 64) (h7_ : vs[7]? = some (.ref b7)) (h12_ : vs[12]? = some (.ref b12)) (h13_ : vs[13]? = some (.ref b13)) (h14_ : vs[14]? = some (.ref b14)) (h15_ : vs[15]? = some (.ref b15)) (h16_ : vs[16]? = some (.ref b16)) (h17_ : vs[17]? = some (.ref b17)) (h19_ : vs[19]? = some (.int mA)) (h20_ : vs[20]? = some (.int mB)) (hi : i < 11) (ha : a < 7) (hb : b < 7) (hlc : lc ≤ 12) (hL : rL i = nI lc) (q1 : mA = nI a) (q2 : mB = nI b) : MetI l g yX12_mayCall cX12_mayCall 6 (some .boolean) 0 0 0 [.ref h0, .int (nI i), .int (nI a), .int (nI b), .int h] [(h0, .inr (12, vs)), (b7, .inl (g.2.1 1, 11, .inl rL)), (b12, .inl (g.2.1 1, 132, .inl rA)), (b13, .inl (g.2.1 1, 132, .inl rB)), (b14, .inl (g.2.1 1, 132, .inl rF)), (b15, .inl (g.2.1 1, 132, .inl rT)), (b16, .inl (g.2.1 1, 132, .inl rW)), (b17, .inl (g.2.1 3, 132, .inl rO))] (fun r u => r = F_X12_mayCallY1 ∧ u = [(h0, .inr (12, vs)), (b7, .inl (g.2.1 1, 11, .inl rL)), (b12, .inl (g.2.1 1, 132, .inl rA)), (b13, .inl (g.2.1 1, 132, .inl rB)), (b14, .inl (g.2.1 1, 132, .inl rF)), (b15, .inl (g.2.1 1, 132, .inl rT)), (b16, .inl (g.2.1 1, 132, .inl rW)), (b17, .inl (g.2.1 3, 132, .inl rO))]) := by
  refine MetI.of (own := RX12) rfl (by decide) (Nat.le_of_ble_eq_true rfl) ?_
  intro p e s m below meth c A ls args Q hQ X hr hin hW hl
  have hx := X.1
  have hb := X.2.1
  have hl : lv_has ls 6 [(0, .ref h0), (1, .int (nI i)), (2, .int (nI a)), (3, .int (nI b)), (4, .int h)] := hl
  refine lv_aload_n (pc := 0) hx hb dX12_mayCall_0 rfl (lv_at hl 0 rfl) ?_
  refine r_get X hW 0 ciX12 19 rfl (by decide) m_1250 rfl h19_ dX12_mayCall_1 ?_
  refine lv_iload_n (pc := 4) hx hb dX12_mayCall_4 rfl (lv_at hl 2 rfl) ?_
  refine lv_icmp_ne (tgt := 16) (pc := 5) hx hb dX12_mayCall_5 rfl (fun c1 => absurd q1 c1) (fun c1 => ?_)
  refine lv_aload_n (pc := 8) hx hb dX12_mayCall_8 rfl (lv_at hl 0 rfl) ?_
  refine r_get X hW 0 ciX12 20 rfl (by decide) m_1251 rfl h20_ dX12_mayCall_9 ?_
  refine lv_iload_n (pc := 12) hx hb dX12_mayCall_12 rfl (lv_at hl 3 rfl) ?_
  refine lv_icmp_eq (tgt := 32) (pc := 13) hx hb dX12_mayCall_13 rfl (fun c2 => ?_) (fun c2 => absurd q2 c2)
  refine lv_iconst (v := 1) (pc := 32) hx hb dX12_mayCall_32 (by decide) ?_
  have hF : F_X12_mayCallY1 = (1 : Int32) := show F_X12_mayCallY1 = (1 : Int32) from rfl
  exact e_z (u := [(h0, .inr (12, vs)), (b7, .inl (g.2.1 1, 11, .inl rL)), (b12, .inl (g.2.1 1, 132, .inl rA)), (b13, .inl (g.2.1 1, 132, .inl rB)), (b14, .inl (g.2.1 1, 132, .inl rF)), (b15, .inl (g.2.1 1, 132, .inl rT)), (b16, .inl (g.2.1 1, 132, .inl rW)), (b17, .inl (g.2.1 3, 132, .inl rO))]) X hQ hr (hW) rfl [0, 1, 2, 3, 4, 5, 6, 7] rfl rfl (⟨hF.symm, rfl⟩) ⟨Nat.le_of_ble_eq_true rfl, Nat.le_of_ble_eq_true rfl⟩ dX12_mayCall_33

def F_X12_mayCallY2  : Int32 := (1 : Int32)
set_option maxHeartbeats 4000000 in
set_option maxRecDepth 100000 in
theorem K_X12_mayCallY2 (l : Launch) (g : GG) (h0 : Nat) (vs : List Value) (b7 : Nat) (rL : Nat → Int32) (b12 : Nat) (rA : Nat → Int32) (b13 : Nat) (rB : Nat → Int32) (b14 : Nat) (rF : Nat → Int32) (b15 : Nat) (rT : Nat → Int32) (b16 : Nat) (rW : Nat → Int32) (b17 : Nat) (rO : Nat → Int32) (lc : Nat) (i : Nat) (a : Nat) (b : Nat) (h : Int32) (mA : Int32) (mB : Int32) (hlen : vs.length = 64) (h7_ : vs[7]? = some (.ref b7)) (h12_ : vs[12]? = some (.ref b12)) (h13_ : vs[13]? = some (.ref b13)) (h14_ : vs[14]? = some (.ref b14)) (h15_ : vs[15]? = some (.ref b15)) (h16_ : vs[16]? = some (.ref b16)) (h17_ : vs[17]? = some (.ref b17)) (h19_ : vs[19]? = some (.int mA)) (h20_ : vs[20]? = some (.int mB)) (hi : i < 11) (ha : a < 7) (hb : b < 7) (hlc : lc ≤ 12) (hL : rL i = nI lc) (q1 : ¬ mA = nI a) (q2 : mA = nI b) (q3 : mB = nI a) : MetI l g yX12_mayCall cX12_mayCall 6 (some .boolean) 0 0 0 [.ref h0, .int (nI i), .int (nI a), .int (nI b), .int h] [(h0, .inr (12, vs)), (b7, .inl (g.2.1 1, 11, .inl rL)), (b12, .inl (g.2.1 1, 132, .inl rA)), (b13, .inl (g.2.1 1, 132, .inl rB)), (b14, .inl (g.2.1 1, 132, .inl rF)), (b15, .inl (g.2.1 1, 132, .inl rT)), (b16, .inl (g.2.1 1, 132, .inl rW)), (b17, .inl (g.2.1 3, 132, .inl rO))] (fun r u => r = F_X12_mayCallY2 ∧ u = [(h0, .inr (12, vs)), (b7, .inl (g.2.1 1, 11, .inl rL)), (b12, .inl (g.2.1 1, 132, .inl rA)), (b13, .inl (g.2.1 1, 132, .inl rB)), (b14, .inl (g.2.1 1, 132, .inl rF)), (b15, .inl (g.2.1 1, 132, .inl rT)), (b16, .inl (g.2.1 1, 132, .inl rW)), (b17, .inl (g.2.1 3, 132, .inl rO))]) := by
  refine MetI.of (own := RX12) rfl (by decide) (Nat.le_of_ble_eq_true rfl) ?_
  intro p e s m below meth c A ls args Q hQ X hr hin hW hl
  have hx := X.1
  have hb := X.2.1
  have hl : lv_has ls 6 [(0, .ref h0), (1, .int (nI i)), (2, .int (nI a)), (3, .int (nI b)), (4, .int h)] := hl
  refine lv_aload_n (pc := 0) hx hb dX12_mayCall_0 rfl (lv_at hl 0 rfl) ?_
  refine r_get X hW 0 ciX12 19 rfl (by decide) m_1250 rfl h19_ dX12_mayCall_1 ?_
  refine lv_iload_n (pc := 4) hx hb dX12_mayCall_4 rfl (lv_at hl 2 rfl) ?_
  refine lv_icmp_ne (tgt := 16) (pc := 5) hx hb dX12_mayCall_5 rfl (fun c1 => ?_) (fun c1 => absurd c1 q1)
  refine lv_aload_n (pc := 16) hx hb dX12_mayCall_16 rfl (lv_at hl 0 rfl) ?_
  refine r_get X hW 0 ciX12 19 rfl (by decide) m_1250 rfl h19_ dX12_mayCall_17 ?_
  refine lv_iload_n (pc := 20) hx hb dX12_mayCall_20 rfl (lv_at hl 3 rfl) ?_
  refine lv_icmp_ne (tgt := 34) (pc := 21) hx hb dX12_mayCall_21 rfl (fun c2 => absurd q2 c2) (fun c2 => ?_)
  refine lv_aload_n (pc := 24) hx hb dX12_mayCall_24 rfl (lv_at hl 0 rfl) ?_
  refine r_get X hW 0 ciX12 20 rfl (by decide) m_1251 rfl h20_ dX12_mayCall_25 ?_
  refine lv_iload_n (pc := 28) hx hb dX12_mayCall_28 rfl (lv_at hl 2 rfl) ?_
  refine lv_icmp_ne (tgt := 34) (pc := 29) hx hb dX12_mayCall_29 rfl (fun c3 => absurd q3 c3) (fun c3 => ?_)
  refine lv_iconst (v := 1) (pc := 32) hx hb dX12_mayCall_32 (by decide) ?_
  have hF : F_X12_mayCallY2 = (1 : Int32) := show F_X12_mayCallY2 = (1 : Int32) from rfl
  exact e_z (u := [(h0, .inr (12, vs)), (b7, .inl (g.2.1 1, 11, .inl rL)), (b12, .inl (g.2.1 1, 132, .inl rA)), (b13, .inl (g.2.1 1, 132, .inl rB)), (b14, .inl (g.2.1 1, 132, .inl rF)), (b15, .inl (g.2.1 1, 132, .inl rT)), (b16, .inl (g.2.1 1, 132, .inl rW)), (b17, .inl (g.2.1 3, 132, .inl rO))]) X hQ hr (hW) rfl [0, 1, 2, 3, 4, 5, 6, 7] rfl rfl (⟨hF.symm, rfl⟩) ⟨Nat.le_of_ble_eq_true rfl, Nat.le_of_ble_eq_true rfl⟩ dX12_mayCall_33

def L1_X12_mayCallN1 (rA : Nat → Int32) (rB : Nat → Int32) (rF : Nat → Int32) (rT : Nat → Int32) (rW : Nat → Int32) (rO : Nat → Int32) (lc : Nat) (i : Nat) (a : Nat) (b : Nat) (h : Int32) : Nat → Nat → Int32
  | 0, _ => (0)
  | m_ + 1, j1 => if nI lc ≤ nI j1 then ((0 : Int32)) else (if F_X12_joins rA rB rO (12 * i + j1) (nI a) (nI b) = 0 then (L1_X12_mayCallN1 rA rB rF rT rW rO lc i a b h m_ (j1 + 1) ) else (if F_X12_works rF rT rW (12 * i + j1) h = 0 then (L1_X12_mayCallN1 rA rB rF rT rW rO lc i a b h m_ (j1 + 1) ) else ((1 : Int32))))
def F_X12_mayCallN1 (rA : Nat → Int32) (rB : Nat → Int32) (rF : Nat → Int32) (rT : Nat → Int32) (rW : Nat → Int32) (rO : Nat → Int32) (lc : Nat) (i : Nat) (a : Nat) (b : Nat) (h : Int32) : Int32 := L1_X12_mayCallN1 rA rB rF rT rW rO lc i a b h (lc + 1) 0 
set_option maxHeartbeats 4000000 in
set_option maxRecDepth 100000 in
theorem K_X12_mayCallN1 (l : Launch) (g : GG) (h0 : Nat) (vs : List Value) (b7 : Nat) (rL : Nat → Int32) (b12 : Nat) (rA : Nat → Int32) (b13 : Nat) (rB : Nat → Int32) (b14 : Nat) (rF : Nat → Int32) (b15 : Nat) (rT : Nat → Int32) (b16 : Nat) (rW : Nat → Int32) (b17 : Nat) (rO : Nat → Int32) (lc : Nat) (i : Nat) (a : Nat) (b : Nat) (h : Int32) (mA : Int32) (mB : Int32) (hlen : vs.length = 64) (h7_ : vs[7]? = some (.ref b7)) (h12_ : vs[12]? = some (.ref b12)) (h13_ : vs[13]? = some (.ref b13)) (h14_ : vs[14]? = some (.ref b14)) (h15_ : vs[15]? = some (.ref b15)) (h16_ : vs[16]? = some (.ref b16)) (h17_ : vs[17]? = some (.ref b17)) (h19_ : vs[19]? = some (.int mA)) (h20_ : vs[20]? = some (.int mB)) (hi : i < 11) (ha : a < 7) (hb : b < 7) (hlc : lc ≤ 12) (hL : rL i = nI lc) (q1 : ¬ mA = nI a) (q2 : ¬ mA = nI b) : MetI l g yX12_mayCall cX12_mayCall 6 (some .boolean) 1 0 0 [.ref h0, .int (nI i), .int (nI a), .int (nI b), .int h] [(h0, .inr (12, vs)), (b7, .inl (g.2.1 1, 11, .inl rL)), (b12, .inl (g.2.1 1, 132, .inl rA)), (b13, .inl (g.2.1 1, 132, .inl rB)), (b14, .inl (g.2.1 1, 132, .inl rF)), (b15, .inl (g.2.1 1, 132, .inl rT)), (b16, .inl (g.2.1 1, 132, .inl rW)), (b17, .inl (g.2.1 3, 132, .inl rO))] (fun r u => r = (F_X12_mayCallN1 rA rB rF rT rW rO lc i a b h) ∧ u = [(h0, .inr (12, vs)), (b7, .inl (g.2.1 1, 11, .inl rL)), (b12, .inl (g.2.1 1, 132, .inl rA)), (b13, .inl (g.2.1 1, 132, .inl rB)), (b14, .inl (g.2.1 1, 132, .inl rF)), (b15, .inl (g.2.1 1, 132, .inl rT)), (b16, .inl (g.2.1 1, 132, .inl rW)), (b17, .inl (g.2.1 3, 132, .inl rO))]) := by
  refine MetI.of (own := RX12) rfl (by decide) (Nat.le_of_ble_eq_true rfl) ?_
  intro p e s m below meth c A ls args Q hQ X hr hin hW hl
  have hx := X.1
  have hb := X.2.1
  have hl : lv_has ls 6 [(0, .ref h0), (1, .int (nI i)), (2, .int (nI a)), (3, .int (nI b)), (4, .int h)] := hl
  refine lv_aload_n (pc := 0) hx hb dX12_mayCall_0 rfl (lv_at hl 0 rfl) ?_
  refine r_get X hW 0 ciX12 19 rfl (by decide) m_1250 rfl h19_ dX12_mayCall_1 ?_
  refine lv_iload_n (pc := 4) hx hb dX12_mayCall_4 rfl (lv_at hl 2 rfl) ?_
  refine lv_icmp_ne (tgt := 16) (pc := 5) hx hb dX12_mayCall_5 rfl (fun c1 => ?_) (fun c1 => absurd c1 q1)
  refine lv_aload_n (pc := 16) hx hb dX12_mayCall_16 rfl (lv_at hl 0 rfl) ?_
  refine r_get X hW 0 ciX12 19 rfl (by decide) m_1250 rfl h19_ dX12_mayCall_17 ?_
  refine lv_iload_n (pc := 20) hx hb dX12_mayCall_20 rfl (lv_at hl 3 rfl) ?_
  refine lv_icmp_ne (tgt := 34) (pc := 21) hx hb dX12_mayCall_21 rfl (fun c2 => ?_) (fun c2 => absurd c2 q2)
  refine lv_iconst (v := 0) (pc := 34) hx hb dX12_mayCall_34 (by decide) ?_
  refine lv_istore (lv' := [(5, .int 0), (0, .ref h0), (1, .int (nI i)), (2, .int (nI a)), (3, .int (nI b)), (4, .int h)]) (pc := 35) hx hb dX12_mayCall_35 hl (by decide) rfl (fun ls hl => ?_)
  have loop1 : ∀ (fu1 : Nat) (j1 : Nat), (lc < fu1 + j1) → (j1 ≤ lc) → (L1_X12_mayCallN1 rA rB rF rT rW rO lc i a b h fu1 j1 = F_X12_mayCallN1 rA rB rF rT rW rO lc i a b h) → ∀ (H : Heap) (locs : List Loc) (ls : Array Slot), WD g A s H locs [(h0, .inr (12, vs)), (b7, .inl (g.2.1 1, 11, .inl rL)), (b12, .inl (g.2.1 1, 132, .inl rA)), (b13, .inl (g.2.1 1, 132, .inl rB)), (b14, .inl (g.2.1 1, 132, .inl rF)), (b15, .inl (g.2.1 1, 132, .inl rT)), (b16, .inl (g.2.1 1, 132, .inl rW)), (b17, .inl (g.2.1 3, 132, .inl rO))] → lv_has ls 6 [(5, .int (nI j1)), (0, .ref h0), (1, .int (nI i)), (2, .int (nI a)), (3, .int (nI b)), (4, .int h)] → W p l e (RM 1 0 0) s m args below meth c H locs 0 0 Q (F0 m 37 ls []) := by
    intro fu1
    induction fu1 with
    | zero =>
      intro j1 hm1 hj1 hst1
      exact absurd hm1 (by omega)
    | succ fu1 ih1 =>
      intro j1 hm1 hj1 hst1 H locs ls hW hl
      refine lv_iload (pc := 37) hx hb dX12_mayCall_37 (lv_at hl 0 rfl) ?_
      refine lv_aload_n (pc := 39) hx hb dX12_mayCall_39 rfl (lv_at hl 1 rfl) ?_
      refine r_get X hW 0 ciX12 7 rfl (by decide) m_1238 rfl h7_ dX12_mayCall_40 ?_
      refine lv_iload_n (pc := 43) hx hb dX12_mayCall_43 rfl (lv_at hl 2 rfl) ?_
      refine r_iald X hW 1 rfl (vp_in_nI (by omega) (by decide)) dX12_mayCall_44 ?_
      refine lv_topi (fun v3 ev3 => ?_)
      obtain rfl : v3 = rL i := ev3.trans (by rw [nI_clamp (by omega)])
      rw [hL]
      refine lv_icmp_ge (tgt := 88) (pc := 45) hx hb dX12_mayCall_45 rfl (fun c4 => ?_) (fun c4 => ?_)
      · have h5 : lc ≤ j1 := (nI_leI (a := lc) (b := j1) (by omega) (by omega)).mp c4
        refine lv_iconst (v := 0) (pc := 88) hx hb dX12_mayCall_88 (by decide) ?_
        have hF : F_X12_mayCallN1 rA rB rF rT rW rO lc i a b h = (0 : Int32) := hst1.symm.trans (show L1_X12_mayCallN1 rA rB rF rT rW rO lc i a b h (fu1 + 1) j1 = (0 : Int32) from by rw [L1_X12_mayCallN1, if_pos c4])
        exact e_z (u := [(h0, .inr (12, vs)), (b7, .inl (g.2.1 1, 11, .inl rL)), (b12, .inl (g.2.1 1, 132, .inl rA)), (b13, .inl (g.2.1 1, 132, .inl rB)), (b14, .inl (g.2.1 1, 132, .inl rF)), (b15, .inl (g.2.1 1, 132, .inl rT)), (b16, .inl (g.2.1 1, 132, .inl rW)), (b17, .inl (g.2.1 3, 132, .inl rO))]) X hQ hr (hW) rfl [0, 1, 2, 3, 4, 5, 6, 7] rfl rfl (⟨hF.symm, rfl⟩) ⟨Nat.le_of_ble_eq_true rfl, Nat.le_of_ble_eq_true rfl⟩ dX12_mayCall_89
      · have h6 : ¬ (lc ≤ j1) := fun q => c4 ((nI_leI (a := lc) (b := j1) (by omega) (by omega)).mpr q)
        refine lv_aload_n (pc := 48) hx hb dX12_mayCall_48 rfl (lv_at hl 1 rfl) ?_
        refine lv_bipush (v := 12) (pc := 49) hx hb dX12_mayCall_49 (by decide) ?_
        refine lv_iload_n (pc := 51) hx hb dX12_mayCall_51 rfl (lv_at hl 2 rfl) ?_
        refine lv_imul (pc := 52) hx hb dX12_mayCall_52 ?_
        refine lv_topi (fun v7 ev7 => ?_)
        obtain rfl : v7 = nI (12 * i) := ev7.trans (pk_mul 12 i)
        refine lv_iload (pc := 53) hx hb dX12_mayCall_53 (lv_at hl 0 rfl) ?_
        refine lv_iadd (pc := 55) hx hb dX12_mayCall_55 ?_
        refine lv_topi (fun v8 ev8 => ?_)
        obtain rfl : v8 = nI (12 * i + j1) := ev8.trans (nI_add _ _)
        refine lv_iload_n (pc := 56) hx hb dX12_mayCall_56 rfl (lv_at hl 3 rfl) ?_
        refine lv_iload_n (pc := 57) hx hb dX12_mayCall_57 rfl (lv_at hl 4 rfl) ?_
        refine c_Vi (pc := 58) (As := [.int (nI (12 * i + j1)), .int (nI a), .int (nI b)]) (rest := []) (wr := [(b7, .inl (g.2.1 1, 11, .inl rL)), (b14, .inl (g.2.1 1, 132, .inl rF)), (b15, .inl (g.2.1 1, 132, .inl rT)), (b16, .inl (g.2.1 1, 132, .inl rW))]) X hW 0 ciX12 rfl (K_X12_joins l g h0 vs b12 rA b13 rB b17 rO (12 * i + j1) (nI a) (nI b) hlen h12_ h13_ h17_ (by omega)) vX12_231 [0, 2, 3, 7] [1, 4, 5, 6] rfl rfl rfl rfl rfl rfl hl.1 rfl (Nat.le_of_ble_eq_true rfl) ⟨Nat.le_of_ble_eq_true rfl, Nat.le_of_ble_eq_true rfl⟩ ⟨Nat.le_of_ble_eq_true rfl, Nat.le_of_ble_eq_true rfl⟩ dX12_mayCall_58 (fun r9 u9 H locs hq hW => ?_)
        obtain ⟨rfl, rfl⟩ := hq
        have hW : WD g A s _ _ [(b7, .inl (g.2.1 1, 11, .inl rL)), (b14, .inl (g.2.1 1, 132, .inl rF)), (b15, .inl (g.2.1 1, 132, .inl rT)), (b16, .inl (g.2.1 1, 132, .inl rW)), (h0, .inr (12, vs)), (b12, .inl (g.2.1 1, 132, .inl rA)), (b13, .inl (g.2.1 1, 132, .inl rB)), (b17, .inl (g.2.1 3, 132, .inl rO))] := hW
        refine lv_if_eq (tgt := 82) (pc := 61) hx hb dX12_mayCall_61 rfl (fun c10 => ?_) (fun c10 => ?_)
        · refine lv_iinc (v := nI (j1 + 1)) (lv' := [(5, .int (nI (j1 + 1))), (0, .ref h0), (1, .int (nI i)), (2, .int (nI a)), (3, .int (nI b)), (4, .int h)]) (pc := 82) hx hb dX12_mayCall_82 hl (k := 0) rfl (nI_add j1 1) (by decide) rfl (fun ls hl => ?_)
          refine lv_goto (tgt := 37) (pc := 85) hx hb dX12_mayCall_85 rfl ?_
          have hW : WD g A s _ _ [(h0, .inr (12, vs)), (b7, .inl (g.2.1 1, 11, .inl rL)), (b12, .inl (g.2.1 1, 132, .inl rA)), (b13, .inl (g.2.1 1, 132, .inl rB)), (b14, .inl (g.2.1 1, 132, .inl rF)), (b15, .inl (g.2.1 1, 132, .inl rT)), (b16, .inl (g.2.1 1, 132, .inl rW)), (b17, .inl (g.2.1 3, 132, .inl rO))] := hW.pick [4, 0, 5, 6, 1, 2, 3, 7] rfl rfl
          exact ih1 (j1 + 1)  (by omega) (by omega) ((show L1_X12_mayCallN1 rA rB rF rT rW rO lc i a b h (fu1 + 1) j1 = L1_X12_mayCallN1 rA rB rF rT rW rO lc i a b h fu1 (j1 + 1)  from by rw [L1_X12_mayCallN1, if_neg c4, if_pos c10]).symm.trans hst1) _ _ _ hW (lv_sub hl [0, 1, 2, 3, 4, 5] rfl)
        · refine lv_aload_n (pc := 64) hx hb dX12_mayCall_64 rfl (lv_at hl 1 rfl) ?_
          refine lv_bipush (v := 12) (pc := 65) hx hb dX12_mayCall_65 (by decide) ?_
          refine lv_iload_n (pc := 67) hx hb dX12_mayCall_67 rfl (lv_at hl 2 rfl) ?_
          refine lv_imul (pc := 68) hx hb dX12_mayCall_68 ?_
          refine lv_topi (fun v13 ev13 => ?_)
          obtain rfl : v13 = nI (12 * i) := ev13.trans (pk_mul 12 i)
          refine lv_iload (pc := 69) hx hb dX12_mayCall_69 (lv_at hl 0 rfl) ?_
          refine lv_iadd (pc := 71) hx hb dX12_mayCall_71 ?_
          refine lv_topi (fun v14 ev14 => ?_)
          obtain rfl : v14 = nI (12 * i + j1) := ev14.trans (nI_add _ _)
          refine lv_iload (pc := 72) hx hb dX12_mayCall_72 (lv_at hl 5 rfl) ?_
          refine c_Vi (pc := 74) (As := [.int (nI (12 * i + j1)), .int h]) (rest := []) (wr := [(b7, .inl (g.2.1 1, 11, .inl rL)), (b12, .inl (g.2.1 1, 132, .inl rA)), (b13, .inl (g.2.1 1, 132, .inl rB)), (b17, .inl (g.2.1 3, 132, .inl rO))]) X hW 4 ciX12 rfl (K_X12_works l g h0 vs b14 rF b15 rT b16 rW (12 * i + j1) h hlen h14_ h15_ h16_ (by omega)) vX12_234 [4, 1, 2, 3] [0, 5, 6, 7] rfl rfl rfl rfl rfl rfl hl.1 rfl (Nat.le_of_ble_eq_true rfl) ⟨Nat.le_of_ble_eq_true rfl, Nat.le_of_ble_eq_true rfl⟩ ⟨Nat.le_of_ble_eq_true rfl, Nat.le_of_ble_eq_true rfl⟩ dX12_mayCall_74 (fun r15 u9 H locs hq hW => ?_)
          obtain ⟨rfl, rfl⟩ := hq
          have hW : WD g A s _ _ [(b7, .inl (g.2.1 1, 11, .inl rL)), (b12, .inl (g.2.1 1, 132, .inl rA)), (b13, .inl (g.2.1 1, 132, .inl rB)), (b17, .inl (g.2.1 3, 132, .inl rO)), (h0, .inr (12, vs)), (b14, .inl (g.2.1 1, 132, .inl rF)), (b15, .inl (g.2.1 1, 132, .inl rT)), (b16, .inl (g.2.1 1, 132, .inl rW))] := hW
          refine lv_if_eq (tgt := 82) (pc := 77) hx hb dX12_mayCall_77 rfl (fun c16 => ?_) (fun c16 => ?_)
          · refine lv_iinc (v := nI (j1 + 1)) (lv' := [(5, .int (nI (j1 + 1))), (0, .ref h0), (1, .int (nI i)), (2, .int (nI a)), (3, .int (nI b)), (4, .int h)]) (pc := 82) hx hb dX12_mayCall_82 hl (k := 0) rfl (nI_add j1 1) (by decide) rfl (fun ls hl => ?_)
            refine lv_goto (tgt := 37) (pc := 85) hx hb dX12_mayCall_85 rfl ?_
            have hW : WD g A s _ _ [(h0, .inr (12, vs)), (b7, .inl (g.2.1 1, 11, .inl rL)), (b12, .inl (g.2.1 1, 132, .inl rA)), (b13, .inl (g.2.1 1, 132, .inl rB)), (b14, .inl (g.2.1 1, 132, .inl rF)), (b15, .inl (g.2.1 1, 132, .inl rT)), (b16, .inl (g.2.1 1, 132, .inl rW)), (b17, .inl (g.2.1 3, 132, .inl rO))] := hW.pick [4, 0, 1, 2, 5, 6, 7, 3] rfl rfl
            exact ih1 (j1 + 1)  (by omega) (by omega) ((show L1_X12_mayCallN1 rA rB rF rT rW rO lc i a b h (fu1 + 1) j1 = L1_X12_mayCallN1 rA rB rF rT rW rO lc i a b h fu1 (j1 + 1)  from by rw [L1_X12_mayCallN1, if_neg c4, if_neg c10, if_pos c16]).symm.trans hst1) _ _ _ hW (lv_sub hl [0, 1, 2, 3, 4, 5] rfl)
          · refine lv_iconst (v := 1) (pc := 80) hx hb dX12_mayCall_80 (by decide) ?_
            have hF : F_X12_mayCallN1 rA rB rF rT rW rO lc i a b h = (1 : Int32) := hst1.symm.trans (show L1_X12_mayCallN1 rA rB rF rT rW rO lc i a b h (fu1 + 1) j1 = (1 : Int32) from by rw [L1_X12_mayCallN1, if_neg c4, if_neg c10, if_neg c16])
            exact e_z (u := [(h0, .inr (12, vs)), (b7, .inl (g.2.1 1, 11, .inl rL)), (b12, .inl (g.2.1 1, 132, .inl rA)), (b13, .inl (g.2.1 1, 132, .inl rB)), (b14, .inl (g.2.1 1, 132, .inl rF)), (b15, .inl (g.2.1 1, 132, .inl rT)), (b16, .inl (g.2.1 1, 132, .inl rW)), (b17, .inl (g.2.1 3, 132, .inl rO))]) X hQ hr (hW) rfl [4, 0, 1, 2, 5, 6, 7, 3] rfl rfl (⟨hF.symm, rfl⟩) ⟨Nat.le_of_ble_eq_true rfl, Nat.le_of_ble_eq_true rfl⟩ dX12_mayCall_81
  exact loop1 (lc + 1) 0  (by omega) (by omega) (show F_X12_mayCallN1 rA rB rF rT rW rO lc i a b h = L1_X12_mayCallN1 rA rB rF rT rW rO lc i a b h (lc + 1) 0  from rfl).symm _ _ _ hW (lv_sub hl [0, 1, 2, 3, 4, 5] rfl)

theorem mcN1_eq {rA rB rF rT rW rO : Nat → Int32} {lc i a b : Nat} {h : Int32} : ∀ m j : Nat, L1_X12_mayCallN1 rA rB rF rT rW rO lc i a b h m j = L1_X12_mayCall rA rB rF rT rW rO lc i a b h m j
  | 0, j => rfl
  | m + 1, j => by rw [L1_X12_mayCallN1, L1_X12_mayCall, mcN1_eq m (j + 1)]
def L1_X12_mayCallN2 (rA : Nat → Int32) (rB : Nat → Int32) (rF : Nat → Int32) (rT : Nat → Int32) (rW : Nat → Int32) (rO : Nat → Int32) (lc : Nat) (i : Nat) (a : Nat) (b : Nat) (h : Int32) : Nat → Nat → Int32
  | 0, _ => (0)
  | m_ + 1, j1 => if nI lc ≤ nI j1 then ((0 : Int32)) else (if F_X12_joins rA rB rO (12 * i + j1) (nI a) (nI b) = 0 then (L1_X12_mayCallN2 rA rB rF rT rW rO lc i a b h m_ (j1 + 1) ) else (if F_X12_works rF rT rW (12 * i + j1) h = 0 then (L1_X12_mayCallN2 rA rB rF rT rW rO lc i a b h m_ (j1 + 1) ) else ((1 : Int32))))
def F_X12_mayCallN2 (rA : Nat → Int32) (rB : Nat → Int32) (rF : Nat → Int32) (rT : Nat → Int32) (rW : Nat → Int32) (rO : Nat → Int32) (lc : Nat) (i : Nat) (a : Nat) (b : Nat) (h : Int32) : Int32 := L1_X12_mayCallN2 rA rB rF rT rW rO lc i a b h (lc + 1) 0 
set_option maxHeartbeats 4000000 in
set_option maxRecDepth 100000 in
theorem K_X12_mayCallN2 (l : Launch) (g : GG) (h0 : Nat) (vs : List Value) (b7 : Nat) (rL : Nat → Int32) (b12 : Nat) (rA : Nat → Int32) (b13 : Nat) (rB : Nat → Int32) (b14 : Nat) (rF : Nat → Int32) (b15 : Nat) (rT : Nat → Int32) (b16 : Nat) (rW : Nat → Int32) (b17 : Nat) (rO : Nat → Int32) (lc : Nat) (i : Nat) (a : Nat) (b : Nat) (h : Int32) (mA : Int32) (mB : Int32) (hlen : vs.length = 64) (h7_ : vs[7]? = some (.ref b7)) (h12_ : vs[12]? = some (.ref b12)) (h13_ : vs[13]? = some (.ref b13)) (h14_ : vs[14]? = some (.ref b14)) (h15_ : vs[15]? = some (.ref b15)) (h16_ : vs[16]? = some (.ref b16)) (h17_ : vs[17]? = some (.ref b17)) (h19_ : vs[19]? = some (.int mA)) (h20_ : vs[20]? = some (.int mB)) (hi : i < 11) (ha : a < 7) (hb : b < 7) (hlc : lc ≤ 12) (hL : rL i = nI lc) (q1 : mA = nI a) (q2 : ¬ mB = nI b) (q3 : ¬ mA = nI b) : MetI l g yX12_mayCall cX12_mayCall 6 (some .boolean) 1 0 0 [.ref h0, .int (nI i), .int (nI a), .int (nI b), .int h] [(h0, .inr (12, vs)), (b7, .inl (g.2.1 1, 11, .inl rL)), (b12, .inl (g.2.1 1, 132, .inl rA)), (b13, .inl (g.2.1 1, 132, .inl rB)), (b14, .inl (g.2.1 1, 132, .inl rF)), (b15, .inl (g.2.1 1, 132, .inl rT)), (b16, .inl (g.2.1 1, 132, .inl rW)), (b17, .inl (g.2.1 3, 132, .inl rO))] (fun r u => r = (F_X12_mayCallN2 rA rB rF rT rW rO lc i a b h) ∧ u = [(h0, .inr (12, vs)), (b7, .inl (g.2.1 1, 11, .inl rL)), (b12, .inl (g.2.1 1, 132, .inl rA)), (b13, .inl (g.2.1 1, 132, .inl rB)), (b14, .inl (g.2.1 1, 132, .inl rF)), (b15, .inl (g.2.1 1, 132, .inl rT)), (b16, .inl (g.2.1 1, 132, .inl rW)), (b17, .inl (g.2.1 3, 132, .inl rO))]) := by
  refine MetI.of (own := RX12) rfl (by decide) (Nat.le_of_ble_eq_true rfl) ?_
  intro p e s m below meth c A ls args Q hQ X hr hin hW hl
  have hx := X.1
  have hb := X.2.1
  have hl : lv_has ls 6 [(0, .ref h0), (1, .int (nI i)), (2, .int (nI a)), (3, .int (nI b)), (4, .int h)] := hl
  refine lv_aload_n (pc := 0) hx hb dX12_mayCall_0 rfl (lv_at hl 0 rfl) ?_
  refine r_get X hW 0 ciX12 19 rfl (by decide) m_1250 rfl h19_ dX12_mayCall_1 ?_
  refine lv_iload_n (pc := 4) hx hb dX12_mayCall_4 rfl (lv_at hl 2 rfl) ?_
  refine lv_icmp_ne (tgt := 16) (pc := 5) hx hb dX12_mayCall_5 rfl (fun c1 => absurd q1 c1) (fun c1 => ?_)
  refine lv_aload_n (pc := 8) hx hb dX12_mayCall_8 rfl (lv_at hl 0 rfl) ?_
  refine r_get X hW 0 ciX12 20 rfl (by decide) m_1251 rfl h20_ dX12_mayCall_9 ?_
  refine lv_iload_n (pc := 12) hx hb dX12_mayCall_12 rfl (lv_at hl 3 rfl) ?_
  refine lv_icmp_eq (tgt := 32) (pc := 13) hx hb dX12_mayCall_13 rfl (fun c2 => absurd c2 q2) (fun c2 => ?_)
  refine lv_aload_n (pc := 16) hx hb dX12_mayCall_16 rfl (lv_at hl 0 rfl) ?_
  refine r_get X hW 0 ciX12 19 rfl (by decide) m_1250 rfl h19_ dX12_mayCall_17 ?_
  refine lv_iload_n (pc := 20) hx hb dX12_mayCall_20 rfl (lv_at hl 3 rfl) ?_
  refine lv_icmp_ne (tgt := 34) (pc := 21) hx hb dX12_mayCall_21 rfl (fun c3 => ?_) (fun c3 => absurd c3 q3)
  refine lv_iconst (v := 0) (pc := 34) hx hb dX12_mayCall_34 (by decide) ?_
  refine lv_istore (lv' := [(5, .int 0), (0, .ref h0), (1, .int (nI i)), (2, .int (nI a)), (3, .int (nI b)), (4, .int h)]) (pc := 35) hx hb dX12_mayCall_35 hl (by decide) rfl (fun ls hl => ?_)
  have loop1 : ∀ (fu1 : Nat) (j1 : Nat), (lc < fu1 + j1) → (j1 ≤ lc) → (L1_X12_mayCallN2 rA rB rF rT rW rO lc i a b h fu1 j1 = F_X12_mayCallN2 rA rB rF rT rW rO lc i a b h) → ∀ (H : Heap) (locs : List Loc) (ls : Array Slot), WD g A s H locs [(h0, .inr (12, vs)), (b7, .inl (g.2.1 1, 11, .inl rL)), (b12, .inl (g.2.1 1, 132, .inl rA)), (b13, .inl (g.2.1 1, 132, .inl rB)), (b14, .inl (g.2.1 1, 132, .inl rF)), (b15, .inl (g.2.1 1, 132, .inl rT)), (b16, .inl (g.2.1 1, 132, .inl rW)), (b17, .inl (g.2.1 3, 132, .inl rO))] → lv_has ls 6 [(5, .int (nI j1)), (0, .ref h0), (1, .int (nI i)), (2, .int (nI a)), (3, .int (nI b)), (4, .int h)] → W p l e (RM 1 0 0) s m args below meth c H locs 0 0 Q (F0 m 37 ls []) := by
    intro fu1
    induction fu1 with
    | zero =>
      intro j1 hm1 hj1 hst1
      exact absurd hm1 (by omega)
    | succ fu1 ih1 =>
      intro j1 hm1 hj1 hst1 H locs ls hW hl
      refine lv_iload (pc := 37) hx hb dX12_mayCall_37 (lv_at hl 0 rfl) ?_
      refine lv_aload_n (pc := 39) hx hb dX12_mayCall_39 rfl (lv_at hl 1 rfl) ?_
      refine r_get X hW 0 ciX12 7 rfl (by decide) m_1238 rfl h7_ dX12_mayCall_40 ?_
      refine lv_iload_n (pc := 43) hx hb dX12_mayCall_43 rfl (lv_at hl 2 rfl) ?_
      refine r_iald X hW 1 rfl (vp_in_nI (by omega) (by decide)) dX12_mayCall_44 ?_
      refine lv_topi (fun v4 ev4 => ?_)
      obtain rfl : v4 = rL i := ev4.trans (by rw [nI_clamp (by omega)])
      rw [hL]
      refine lv_icmp_ge (tgt := 88) (pc := 45) hx hb dX12_mayCall_45 rfl (fun c5 => ?_) (fun c5 => ?_)
      · have h6 : lc ≤ j1 := (nI_leI (a := lc) (b := j1) (by omega) (by omega)).mp c5
        refine lv_iconst (v := 0) (pc := 88) hx hb dX12_mayCall_88 (by decide) ?_
        have hF : F_X12_mayCallN2 rA rB rF rT rW rO lc i a b h = (0 : Int32) := hst1.symm.trans (show L1_X12_mayCallN2 rA rB rF rT rW rO lc i a b h (fu1 + 1) j1 = (0 : Int32) from by rw [L1_X12_mayCallN2, if_pos c5])
        exact e_z (u := [(h0, .inr (12, vs)), (b7, .inl (g.2.1 1, 11, .inl rL)), (b12, .inl (g.2.1 1, 132, .inl rA)), (b13, .inl (g.2.1 1, 132, .inl rB)), (b14, .inl (g.2.1 1, 132, .inl rF)), (b15, .inl (g.2.1 1, 132, .inl rT)), (b16, .inl (g.2.1 1, 132, .inl rW)), (b17, .inl (g.2.1 3, 132, .inl rO))]) X hQ hr (hW) rfl [0, 1, 2, 3, 4, 5, 6, 7] rfl rfl (⟨hF.symm, rfl⟩) ⟨Nat.le_of_ble_eq_true rfl, Nat.le_of_ble_eq_true rfl⟩ dX12_mayCall_89
      · have h7 : ¬ (lc ≤ j1) := fun q => c5 ((nI_leI (a := lc) (b := j1) (by omega) (by omega)).mpr q)
        refine lv_aload_n (pc := 48) hx hb dX12_mayCall_48 rfl (lv_at hl 1 rfl) ?_
        refine lv_bipush (v := 12) (pc := 49) hx hb dX12_mayCall_49 (by decide) ?_
        refine lv_iload_n (pc := 51) hx hb dX12_mayCall_51 rfl (lv_at hl 2 rfl) ?_
        refine lv_imul (pc := 52) hx hb dX12_mayCall_52 ?_
        refine lv_topi (fun v8 ev8 => ?_)
        obtain rfl : v8 = nI (12 * i) := ev8.trans (pk_mul 12 i)
        refine lv_iload (pc := 53) hx hb dX12_mayCall_53 (lv_at hl 0 rfl) ?_
        refine lv_iadd (pc := 55) hx hb dX12_mayCall_55 ?_
        refine lv_topi (fun v9 ev9 => ?_)
        obtain rfl : v9 = nI (12 * i + j1) := ev9.trans (nI_add _ _)
        refine lv_iload_n (pc := 56) hx hb dX12_mayCall_56 rfl (lv_at hl 3 rfl) ?_
        refine lv_iload_n (pc := 57) hx hb dX12_mayCall_57 rfl (lv_at hl 4 rfl) ?_
        refine c_Vi (pc := 58) (As := [.int (nI (12 * i + j1)), .int (nI a), .int (nI b)]) (rest := []) (wr := [(b7, .inl (g.2.1 1, 11, .inl rL)), (b14, .inl (g.2.1 1, 132, .inl rF)), (b15, .inl (g.2.1 1, 132, .inl rT)), (b16, .inl (g.2.1 1, 132, .inl rW))]) X hW 0 ciX12 rfl (K_X12_joins l g h0 vs b12 rA b13 rB b17 rO (12 * i + j1) (nI a) (nI b) hlen h12_ h13_ h17_ (by omega)) vX12_231 [0, 2, 3, 7] [1, 4, 5, 6] rfl rfl rfl rfl rfl rfl hl.1 rfl (Nat.le_of_ble_eq_true rfl) ⟨Nat.le_of_ble_eq_true rfl, Nat.le_of_ble_eq_true rfl⟩ ⟨Nat.le_of_ble_eq_true rfl, Nat.le_of_ble_eq_true rfl⟩ dX12_mayCall_58 (fun r10 u9 H locs hq hW => ?_)
        obtain ⟨rfl, rfl⟩ := hq
        have hW : WD g A s _ _ [(b7, .inl (g.2.1 1, 11, .inl rL)), (b14, .inl (g.2.1 1, 132, .inl rF)), (b15, .inl (g.2.1 1, 132, .inl rT)), (b16, .inl (g.2.1 1, 132, .inl rW)), (h0, .inr (12, vs)), (b12, .inl (g.2.1 1, 132, .inl rA)), (b13, .inl (g.2.1 1, 132, .inl rB)), (b17, .inl (g.2.1 3, 132, .inl rO))] := hW
        refine lv_if_eq (tgt := 82) (pc := 61) hx hb dX12_mayCall_61 rfl (fun c11 => ?_) (fun c11 => ?_)
        · refine lv_iinc (v := nI (j1 + 1)) (lv' := [(5, .int (nI (j1 + 1))), (0, .ref h0), (1, .int (nI i)), (2, .int (nI a)), (3, .int (nI b)), (4, .int h)]) (pc := 82) hx hb dX12_mayCall_82 hl (k := 0) rfl (nI_add j1 1) (by decide) rfl (fun ls hl => ?_)
          refine lv_goto (tgt := 37) (pc := 85) hx hb dX12_mayCall_85 rfl ?_
          have hW : WD g A s _ _ [(h0, .inr (12, vs)), (b7, .inl (g.2.1 1, 11, .inl rL)), (b12, .inl (g.2.1 1, 132, .inl rA)), (b13, .inl (g.2.1 1, 132, .inl rB)), (b14, .inl (g.2.1 1, 132, .inl rF)), (b15, .inl (g.2.1 1, 132, .inl rT)), (b16, .inl (g.2.1 1, 132, .inl rW)), (b17, .inl (g.2.1 3, 132, .inl rO))] := hW.pick [4, 0, 5, 6, 1, 2, 3, 7] rfl rfl
          exact ih1 (j1 + 1)  (by omega) (by omega) ((show L1_X12_mayCallN2 rA rB rF rT rW rO lc i a b h (fu1 + 1) j1 = L1_X12_mayCallN2 rA rB rF rT rW rO lc i a b h fu1 (j1 + 1)  from by rw [L1_X12_mayCallN2, if_neg c5, if_pos c11]).symm.trans hst1) _ _ _ hW (lv_sub hl [0, 1, 2, 3, 4, 5] rfl)
        · refine lv_aload_n (pc := 64) hx hb dX12_mayCall_64 rfl (lv_at hl 1 rfl) ?_
          refine lv_bipush (v := 12) (pc := 65) hx hb dX12_mayCall_65 (by decide) ?_
          refine lv_iload_n (pc := 67) hx hb dX12_mayCall_67 rfl (lv_at hl 2 rfl) ?_
          refine lv_imul (pc := 68) hx hb dX12_mayCall_68 ?_
          refine lv_topi (fun v14 ev14 => ?_)
          obtain rfl : v14 = nI (12 * i) := ev14.trans (pk_mul 12 i)
          refine lv_iload (pc := 69) hx hb dX12_mayCall_69 (lv_at hl 0 rfl) ?_
          refine lv_iadd (pc := 71) hx hb dX12_mayCall_71 ?_
          refine lv_topi (fun v15 ev15 => ?_)
          obtain rfl : v15 = nI (12 * i + j1) := ev15.trans (nI_add _ _)
          refine lv_iload (pc := 72) hx hb dX12_mayCall_72 (lv_at hl 5 rfl) ?_
          refine c_Vi (pc := 74) (As := [.int (nI (12 * i + j1)), .int h]) (rest := []) (wr := [(b7, .inl (g.2.1 1, 11, .inl rL)), (b12, .inl (g.2.1 1, 132, .inl rA)), (b13, .inl (g.2.1 1, 132, .inl rB)), (b17, .inl (g.2.1 3, 132, .inl rO))]) X hW 4 ciX12 rfl (K_X12_works l g h0 vs b14 rF b15 rT b16 rW (12 * i + j1) h hlen h14_ h15_ h16_ (by omega)) vX12_234 [4, 1, 2, 3] [0, 5, 6, 7] rfl rfl rfl rfl rfl rfl hl.1 rfl (Nat.le_of_ble_eq_true rfl) ⟨Nat.le_of_ble_eq_true rfl, Nat.le_of_ble_eq_true rfl⟩ ⟨Nat.le_of_ble_eq_true rfl, Nat.le_of_ble_eq_true rfl⟩ dX12_mayCall_74 (fun r16 u9 H locs hq hW => ?_)
          obtain ⟨rfl, rfl⟩ := hq
          have hW : WD g A s _ _ [(b7, .inl (g.2.1 1, 11, .inl rL)), (b12, .inl (g.2.1 1, 132, .inl rA)), (b13, .inl (g.2.1 1, 132, .inl rB)), (b17, .inl (g.2.1 3, 132, .inl rO)), (h0, .inr (12, vs)), (b14, .inl (g.2.1 1, 132, .inl rF)), (b15, .inl (g.2.1 1, 132, .inl rT)), (b16, .inl (g.2.1 1, 132, .inl rW))] := hW
          refine lv_if_eq (tgt := 82) (pc := 77) hx hb dX12_mayCall_77 rfl (fun c17 => ?_) (fun c17 => ?_)
          · refine lv_iinc (v := nI (j1 + 1)) (lv' := [(5, .int (nI (j1 + 1))), (0, .ref h0), (1, .int (nI i)), (2, .int (nI a)), (3, .int (nI b)), (4, .int h)]) (pc := 82) hx hb dX12_mayCall_82 hl (k := 0) rfl (nI_add j1 1) (by decide) rfl (fun ls hl => ?_)
            refine lv_goto (tgt := 37) (pc := 85) hx hb dX12_mayCall_85 rfl ?_
            have hW : WD g A s _ _ [(h0, .inr (12, vs)), (b7, .inl (g.2.1 1, 11, .inl rL)), (b12, .inl (g.2.1 1, 132, .inl rA)), (b13, .inl (g.2.1 1, 132, .inl rB)), (b14, .inl (g.2.1 1, 132, .inl rF)), (b15, .inl (g.2.1 1, 132, .inl rT)), (b16, .inl (g.2.1 1, 132, .inl rW)), (b17, .inl (g.2.1 3, 132, .inl rO))] := hW.pick [4, 0, 1, 2, 5, 6, 7, 3] rfl rfl
            exact ih1 (j1 + 1)  (by omega) (by omega) ((show L1_X12_mayCallN2 rA rB rF rT rW rO lc i a b h (fu1 + 1) j1 = L1_X12_mayCallN2 rA rB rF rT rW rO lc i a b h fu1 (j1 + 1)  from by rw [L1_X12_mayCallN2, if_neg c5, if_neg c11, if_pos c17]).symm.trans hst1) _ _ _ hW (lv_sub hl [0, 1, 2, 3, 4, 5] rfl)
          · refine lv_iconst (v := 1) (pc := 80) hx hb dX12_mayCall_80 (by decide) ?_
            have hF : F_X12_mayCallN2 rA rB rF rT rW rO lc i a b h = (1 : Int32) := hst1.symm.trans (show L1_X12_mayCallN2 rA rB rF rT rW rO lc i a b h (fu1 + 1) j1 = (1 : Int32) from by rw [L1_X12_mayCallN2, if_neg c5, if_neg c11, if_neg c17])
            exact e_z (u := [(h0, .inr (12, vs)), (b7, .inl (g.2.1 1, 11, .inl rL)), (b12, .inl (g.2.1 1, 132, .inl rA)), (b13, .inl (g.2.1 1, 132, .inl rB)), (b14, .inl (g.2.1 1, 132, .inl rF)), (b15, .inl (g.2.1 1, 132, .inl rT)), (b16, .inl (g.2.1 1, 132, .inl rW)), (b17, .inl (g.2.1 3, 132, .inl rO))]) X hQ hr (hW) rfl [4, 0, 1, 2, 5, 6, 7, 3] rfl rfl (⟨hF.symm, rfl⟩) ⟨Nat.le_of_ble_eq_true rfl, Nat.le_of_ble_eq_true rfl⟩ dX12_mayCall_81
  exact loop1 (lc + 1) 0  (by omega) (by omega) (show F_X12_mayCallN2 rA rB rF rT rW rO lc i a b h = L1_X12_mayCallN2 rA rB rF rT rW rO lc i a b h (lc + 1) 0  from rfl).symm _ _ _ hW (lv_sub hl [0, 1, 2, 3, 4, 5] rfl)

theorem mcN2_eq {rA rB rF rT rW rO : Nat → Int32} {lc i a b : Nat} {h : Int32} : ∀ m j : Nat, L1_X12_mayCallN2 rA rB rF rT rW rO lc i a b h m j = L1_X12_mayCall rA rB rF rT rW rO lc i a b h m j
  | 0, j => rfl
  | m + 1, j => by rw [L1_X12_mayCallN2, L1_X12_mayCall, mcN2_eq m (j + 1)]
def L1_X12_mayCallN3 (rA : Nat → Int32) (rB : Nat → Int32) (rF : Nat → Int32) (rT : Nat → Int32) (rW : Nat → Int32) (rO : Nat → Int32) (lc : Nat) (i : Nat) (a : Nat) (b : Nat) (h : Int32) : Nat → Nat → Int32
  | 0, _ => (0)
  | m_ + 1, j1 => if nI lc ≤ nI j1 then ((0 : Int32)) else (if F_X12_joins rA rB rO (12 * i + j1) (nI a) (nI b) = 0 then (L1_X12_mayCallN3 rA rB rF rT rW rO lc i a b h m_ (j1 + 1) ) else (if F_X12_works rF rT rW (12 * i + j1) h = 0 then (L1_X12_mayCallN3 rA rB rF rT rW rO lc i a b h m_ (j1 + 1) ) else ((1 : Int32))))
def F_X12_mayCallN3 (rA : Nat → Int32) (rB : Nat → Int32) (rF : Nat → Int32) (rT : Nat → Int32) (rW : Nat → Int32) (rO : Nat → Int32) (lc : Nat) (i : Nat) (a : Nat) (b : Nat) (h : Int32) : Int32 := L1_X12_mayCallN3 rA rB rF rT rW rO lc i a b h (lc + 1) 0 
set_option maxHeartbeats 4000000 in
set_option maxRecDepth 100000 in
theorem K_X12_mayCallN3 (l : Launch) (g : GG) (h0 : Nat) (vs : List Value) (b7 : Nat) (rL : Nat → Int32) (b12 : Nat) (rA : Nat → Int32) (b13 : Nat) (rB : Nat → Int32) (b14 : Nat) (rF : Nat → Int32) (b15 : Nat) (rT : Nat → Int32) (b16 : Nat) (rW : Nat → Int32) (b17 : Nat) (rO : Nat → Int32) (lc : Nat) (i : Nat) (a : Nat) (b : Nat) (h : Int32) (mA : Int32) (mB : Int32) (hlen : vs.length = 64) (h7_ : vs[7]? = some (.ref b7)) (h12_ : vs[12]? = some (.ref b12)) (h13_ : vs[13]? = some (.ref b13)) (h14_ : vs[14]? = some (.ref b14)) (h15_ : vs[15]? = some (.ref b15)) (h16_ : vs[16]? = some (.ref b16)) (h17_ : vs[17]? = some (.ref b17)) (h19_ : vs[19]? = some (.int mA)) (h20_ : vs[20]? = some (.int mB)) (hi : i < 11) (ha : a < 7) (hb : b < 7) (hlc : lc ≤ 12) (hL : rL i = nI lc) (q1 : ¬ mA = nI a) (q2 : mA = nI b) (q3 : ¬ mB = nI a) : MetI l g yX12_mayCall cX12_mayCall 6 (some .boolean) 1 0 0 [.ref h0, .int (nI i), .int (nI a), .int (nI b), .int h] [(h0, .inr (12, vs)), (b7, .inl (g.2.1 1, 11, .inl rL)), (b12, .inl (g.2.1 1, 132, .inl rA)), (b13, .inl (g.2.1 1, 132, .inl rB)), (b14, .inl (g.2.1 1, 132, .inl rF)), (b15, .inl (g.2.1 1, 132, .inl rT)), (b16, .inl (g.2.1 1, 132, .inl rW)), (b17, .inl (g.2.1 3, 132, .inl rO))] (fun r u => r = (F_X12_mayCallN3 rA rB rF rT rW rO lc i a b h) ∧ u = [(h0, .inr (12, vs)), (b7, .inl (g.2.1 1, 11, .inl rL)), (b12, .inl (g.2.1 1, 132, .inl rA)), (b13, .inl (g.2.1 1, 132, .inl rB)), (b14, .inl (g.2.1 1, 132, .inl rF)), (b15, .inl (g.2.1 1, 132, .inl rT)), (b16, .inl (g.2.1 1, 132, .inl rW)), (b17, .inl (g.2.1 3, 132, .inl rO))]) := by
  refine MetI.of (own := RX12) rfl (by decide) (Nat.le_of_ble_eq_true rfl) ?_
  intro p e s m below meth c A ls args Q hQ X hr hin hW hl
  have hx := X.1
  have hb := X.2.1
  have hl : lv_has ls 6 [(0, .ref h0), (1, .int (nI i)), (2, .int (nI a)), (3, .int (nI b)), (4, .int h)] := hl
  refine lv_aload_n (pc := 0) hx hb dX12_mayCall_0 rfl (lv_at hl 0 rfl) ?_
  refine r_get X hW 0 ciX12 19 rfl (by decide) m_1250 rfl h19_ dX12_mayCall_1 ?_
  refine lv_iload_n (pc := 4) hx hb dX12_mayCall_4 rfl (lv_at hl 2 rfl) ?_
  refine lv_icmp_ne (tgt := 16) (pc := 5) hx hb dX12_mayCall_5 rfl (fun c1 => ?_) (fun c1 => absurd c1 q1)
  refine lv_aload_n (pc := 16) hx hb dX12_mayCall_16 rfl (lv_at hl 0 rfl) ?_
  refine r_get X hW 0 ciX12 19 rfl (by decide) m_1250 rfl h19_ dX12_mayCall_17 ?_
  refine lv_iload_n (pc := 20) hx hb dX12_mayCall_20 rfl (lv_at hl 3 rfl) ?_
  refine lv_icmp_ne (tgt := 34) (pc := 21) hx hb dX12_mayCall_21 rfl (fun c2 => absurd q2 c2) (fun c2 => ?_)
  refine lv_aload_n (pc := 24) hx hb dX12_mayCall_24 rfl (lv_at hl 0 rfl) ?_
  refine r_get X hW 0 ciX12 20 rfl (by decide) m_1251 rfl h20_ dX12_mayCall_25 ?_
  refine lv_iload_n (pc := 28) hx hb dX12_mayCall_28 rfl (lv_at hl 2 rfl) ?_
  refine lv_icmp_ne (tgt := 34) (pc := 29) hx hb dX12_mayCall_29 rfl (fun c3 => ?_) (fun c3 => absurd c3 q3)
  refine lv_iconst (v := 0) (pc := 34) hx hb dX12_mayCall_34 (by decide) ?_
  refine lv_istore (lv' := [(5, .int 0), (0, .ref h0), (1, .int (nI i)), (2, .int (nI a)), (3, .int (nI b)), (4, .int h)]) (pc := 35) hx hb dX12_mayCall_35 hl (by decide) rfl (fun ls hl => ?_)
  have loop1 : ∀ (fu1 : Nat) (j1 : Nat), (lc < fu1 + j1) → (j1 ≤ lc) → (L1_X12_mayCallN3 rA rB rF rT rW rO lc i a b h fu1 j1 = F_X12_mayCallN3 rA rB rF rT rW rO lc i a b h) → ∀ (H : Heap) (locs : List Loc) (ls : Array Slot), WD g A s H locs [(h0, .inr (12, vs)), (b7, .inl (g.2.1 1, 11, .inl rL)), (b12, .inl (g.2.1 1, 132, .inl rA)), (b13, .inl (g.2.1 1, 132, .inl rB)), (b14, .inl (g.2.1 1, 132, .inl rF)), (b15, .inl (g.2.1 1, 132, .inl rT)), (b16, .inl (g.2.1 1, 132, .inl rW)), (b17, .inl (g.2.1 3, 132, .inl rO))] → lv_has ls 6 [(5, .int (nI j1)), (0, .ref h0), (1, .int (nI i)), (2, .int (nI a)), (3, .int (nI b)), (4, .int h)] → W p l e (RM 1 0 0) s m args below meth c H locs 0 0 Q (F0 m 37 ls []) := by
    intro fu1
    induction fu1 with
    | zero =>
      intro j1 hm1 hj1 hst1
      exact absurd hm1 (by omega)
    | succ fu1 ih1 =>
      intro j1 hm1 hj1 hst1 H locs ls hW hl
      refine lv_iload (pc := 37) hx hb dX12_mayCall_37 (lv_at hl 0 rfl) ?_
      refine lv_aload_n (pc := 39) hx hb dX12_mayCall_39 rfl (lv_at hl 1 rfl) ?_
      refine r_get X hW 0 ciX12 7 rfl (by decide) m_1238 rfl h7_ dX12_mayCall_40 ?_
      refine lv_iload_n (pc := 43) hx hb dX12_mayCall_43 rfl (lv_at hl 2 rfl) ?_
      refine r_iald X hW 1 rfl (vp_in_nI (by omega) (by decide)) dX12_mayCall_44 ?_
      refine lv_topi (fun v4 ev4 => ?_)
      obtain rfl : v4 = rL i := ev4.trans (by rw [nI_clamp (by omega)])
      rw [hL]
      refine lv_icmp_ge (tgt := 88) (pc := 45) hx hb dX12_mayCall_45 rfl (fun c5 => ?_) (fun c5 => ?_)
      · have h6 : lc ≤ j1 := (nI_leI (a := lc) (b := j1) (by omega) (by omega)).mp c5
        refine lv_iconst (v := 0) (pc := 88) hx hb dX12_mayCall_88 (by decide) ?_
        have hF : F_X12_mayCallN3 rA rB rF rT rW rO lc i a b h = (0 : Int32) := hst1.symm.trans (show L1_X12_mayCallN3 rA rB rF rT rW rO lc i a b h (fu1 + 1) j1 = (0 : Int32) from by rw [L1_X12_mayCallN3, if_pos c5])
        exact e_z (u := [(h0, .inr (12, vs)), (b7, .inl (g.2.1 1, 11, .inl rL)), (b12, .inl (g.2.1 1, 132, .inl rA)), (b13, .inl (g.2.1 1, 132, .inl rB)), (b14, .inl (g.2.1 1, 132, .inl rF)), (b15, .inl (g.2.1 1, 132, .inl rT)), (b16, .inl (g.2.1 1, 132, .inl rW)), (b17, .inl (g.2.1 3, 132, .inl rO))]) X hQ hr (hW) rfl [0, 1, 2, 3, 4, 5, 6, 7] rfl rfl (⟨hF.symm, rfl⟩) ⟨Nat.le_of_ble_eq_true rfl, Nat.le_of_ble_eq_true rfl⟩ dX12_mayCall_89
      · have h7 : ¬ (lc ≤ j1) := fun q => c5 ((nI_leI (a := lc) (b := j1) (by omega) (by omega)).mpr q)
        refine lv_aload_n (pc := 48) hx hb dX12_mayCall_48 rfl (lv_at hl 1 rfl) ?_
        refine lv_bipush (v := 12) (pc := 49) hx hb dX12_mayCall_49 (by decide) ?_
        refine lv_iload_n (pc := 51) hx hb dX12_mayCall_51 rfl (lv_at hl 2 rfl) ?_
        refine lv_imul (pc := 52) hx hb dX12_mayCall_52 ?_
        refine lv_topi (fun v8 ev8 => ?_)
        obtain rfl : v8 = nI (12 * i) := ev8.trans (pk_mul 12 i)
        refine lv_iload (pc := 53) hx hb dX12_mayCall_53 (lv_at hl 0 rfl) ?_
        refine lv_iadd (pc := 55) hx hb dX12_mayCall_55 ?_
        refine lv_topi (fun v9 ev9 => ?_)
        obtain rfl : v9 = nI (12 * i + j1) := ev9.trans (nI_add _ _)
        refine lv_iload_n (pc := 56) hx hb dX12_mayCall_56 rfl (lv_at hl 3 rfl) ?_
        refine lv_iload_n (pc := 57) hx hb dX12_mayCall_57 rfl (lv_at hl 4 rfl) ?_
        refine c_Vi (pc := 58) (As := [.int (nI (12 * i + j1)), .int (nI a), .int (nI b)]) (rest := []) (wr := [(b7, .inl (g.2.1 1, 11, .inl rL)), (b14, .inl (g.2.1 1, 132, .inl rF)), (b15, .inl (g.2.1 1, 132, .inl rT)), (b16, .inl (g.2.1 1, 132, .inl rW))]) X hW 0 ciX12 rfl (K_X12_joins l g h0 vs b12 rA b13 rB b17 rO (12 * i + j1) (nI a) (nI b) hlen h12_ h13_ h17_ (by omega)) vX12_231 [0, 2, 3, 7] [1, 4, 5, 6] rfl rfl rfl rfl rfl rfl hl.1 rfl (Nat.le_of_ble_eq_true rfl) ⟨Nat.le_of_ble_eq_true rfl, Nat.le_of_ble_eq_true rfl⟩ ⟨Nat.le_of_ble_eq_true rfl, Nat.le_of_ble_eq_true rfl⟩ dX12_mayCall_58 (fun r10 u9 H locs hq hW => ?_)
        obtain ⟨rfl, rfl⟩ := hq
        have hW : WD g A s _ _ [(b7, .inl (g.2.1 1, 11, .inl rL)), (b14, .inl (g.2.1 1, 132, .inl rF)), (b15, .inl (g.2.1 1, 132, .inl rT)), (b16, .inl (g.2.1 1, 132, .inl rW)), (h0, .inr (12, vs)), (b12, .inl (g.2.1 1, 132, .inl rA)), (b13, .inl (g.2.1 1, 132, .inl rB)), (b17, .inl (g.2.1 3, 132, .inl rO))] := hW
        refine lv_if_eq (tgt := 82) (pc := 61) hx hb dX12_mayCall_61 rfl (fun c11 => ?_) (fun c11 => ?_)
        · refine lv_iinc (v := nI (j1 + 1)) (lv' := [(5, .int (nI (j1 + 1))), (0, .ref h0), (1, .int (nI i)), (2, .int (nI a)), (3, .int (nI b)), (4, .int h)]) (pc := 82) hx hb dX12_mayCall_82 hl (k := 0) rfl (nI_add j1 1) (by decide) rfl (fun ls hl => ?_)
          refine lv_goto (tgt := 37) (pc := 85) hx hb dX12_mayCall_85 rfl ?_
          have hW : WD g A s _ _ [(h0, .inr (12, vs)), (b7, .inl (g.2.1 1, 11, .inl rL)), (b12, .inl (g.2.1 1, 132, .inl rA)), (b13, .inl (g.2.1 1, 132, .inl rB)), (b14, .inl (g.2.1 1, 132, .inl rF)), (b15, .inl (g.2.1 1, 132, .inl rT)), (b16, .inl (g.2.1 1, 132, .inl rW)), (b17, .inl (g.2.1 3, 132, .inl rO))] := hW.pick [4, 0, 5, 6, 1, 2, 3, 7] rfl rfl
          exact ih1 (j1 + 1)  (by omega) (by omega) ((show L1_X12_mayCallN3 rA rB rF rT rW rO lc i a b h (fu1 + 1) j1 = L1_X12_mayCallN3 rA rB rF rT rW rO lc i a b h fu1 (j1 + 1)  from by rw [L1_X12_mayCallN3, if_neg c5, if_pos c11]).symm.trans hst1) _ _ _ hW (lv_sub hl [0, 1, 2, 3, 4, 5] rfl)
        · refine lv_aload_n (pc := 64) hx hb dX12_mayCall_64 rfl (lv_at hl 1 rfl) ?_
          refine lv_bipush (v := 12) (pc := 65) hx hb dX12_mayCall_65 (by decide) ?_
          refine lv_iload_n (pc := 67) hx hb dX12_mayCall_67 rfl (lv_at hl 2 rfl) ?_
          refine lv_imul (pc := 68) hx hb dX12_mayCall_68 ?_
          refine lv_topi (fun v14 ev14 => ?_)
          obtain rfl : v14 = nI (12 * i) := ev14.trans (pk_mul 12 i)
          refine lv_iload (pc := 69) hx hb dX12_mayCall_69 (lv_at hl 0 rfl) ?_
          refine lv_iadd (pc := 71) hx hb dX12_mayCall_71 ?_
          refine lv_topi (fun v15 ev15 => ?_)
          obtain rfl : v15 = nI (12 * i + j1) := ev15.trans (nI_add _ _)
          refine lv_iload (pc := 72) hx hb dX12_mayCall_72 (lv_at hl 5 rfl) ?_
          refine c_Vi (pc := 74) (As := [.int (nI (12 * i + j1)), .int h]) (rest := []) (wr := [(b7, .inl (g.2.1 1, 11, .inl rL)), (b12, .inl (g.2.1 1, 132, .inl rA)), (b13, .inl (g.2.1 1, 132, .inl rB)), (b17, .inl (g.2.1 3, 132, .inl rO))]) X hW 4 ciX12 rfl (K_X12_works l g h0 vs b14 rF b15 rT b16 rW (12 * i + j1) h hlen h14_ h15_ h16_ (by omega)) vX12_234 [4, 1, 2, 3] [0, 5, 6, 7] rfl rfl rfl rfl rfl rfl hl.1 rfl (Nat.le_of_ble_eq_true rfl) ⟨Nat.le_of_ble_eq_true rfl, Nat.le_of_ble_eq_true rfl⟩ ⟨Nat.le_of_ble_eq_true rfl, Nat.le_of_ble_eq_true rfl⟩ dX12_mayCall_74 (fun r16 u9 H locs hq hW => ?_)
          obtain ⟨rfl, rfl⟩ := hq
          have hW : WD g A s _ _ [(b7, .inl (g.2.1 1, 11, .inl rL)), (b12, .inl (g.2.1 1, 132, .inl rA)), (b13, .inl (g.2.1 1, 132, .inl rB)), (b17, .inl (g.2.1 3, 132, .inl rO)), (h0, .inr (12, vs)), (b14, .inl (g.2.1 1, 132, .inl rF)), (b15, .inl (g.2.1 1, 132, .inl rT)), (b16, .inl (g.2.1 1, 132, .inl rW))] := hW
          refine lv_if_eq (tgt := 82) (pc := 77) hx hb dX12_mayCall_77 rfl (fun c17 => ?_) (fun c17 => ?_)
          · refine lv_iinc (v := nI (j1 + 1)) (lv' := [(5, .int (nI (j1 + 1))), (0, .ref h0), (1, .int (nI i)), (2, .int (nI a)), (3, .int (nI b)), (4, .int h)]) (pc := 82) hx hb dX12_mayCall_82 hl (k := 0) rfl (nI_add j1 1) (by decide) rfl (fun ls hl => ?_)
            refine lv_goto (tgt := 37) (pc := 85) hx hb dX12_mayCall_85 rfl ?_
            have hW : WD g A s _ _ [(h0, .inr (12, vs)), (b7, .inl (g.2.1 1, 11, .inl rL)), (b12, .inl (g.2.1 1, 132, .inl rA)), (b13, .inl (g.2.1 1, 132, .inl rB)), (b14, .inl (g.2.1 1, 132, .inl rF)), (b15, .inl (g.2.1 1, 132, .inl rT)), (b16, .inl (g.2.1 1, 132, .inl rW)), (b17, .inl (g.2.1 3, 132, .inl rO))] := hW.pick [4, 0, 1, 2, 5, 6, 7, 3] rfl rfl
            exact ih1 (j1 + 1)  (by omega) (by omega) ((show L1_X12_mayCallN3 rA rB rF rT rW rO lc i a b h (fu1 + 1) j1 = L1_X12_mayCallN3 rA rB rF rT rW rO lc i a b h fu1 (j1 + 1)  from by rw [L1_X12_mayCallN3, if_neg c5, if_neg c11, if_pos c17]).symm.trans hst1) _ _ _ hW (lv_sub hl [0, 1, 2, 3, 4, 5] rfl)
          · refine lv_iconst (v := 1) (pc := 80) hx hb dX12_mayCall_80 (by decide) ?_
            have hF : F_X12_mayCallN3 rA rB rF rT rW rO lc i a b h = (1 : Int32) := hst1.symm.trans (show L1_X12_mayCallN3 rA rB rF rT rW rO lc i a b h (fu1 + 1) j1 = (1 : Int32) from by rw [L1_X12_mayCallN3, if_neg c5, if_neg c11, if_neg c17])
            exact e_z (u := [(h0, .inr (12, vs)), (b7, .inl (g.2.1 1, 11, .inl rL)), (b12, .inl (g.2.1 1, 132, .inl rA)), (b13, .inl (g.2.1 1, 132, .inl rB)), (b14, .inl (g.2.1 1, 132, .inl rF)), (b15, .inl (g.2.1 1, 132, .inl rT)), (b16, .inl (g.2.1 1, 132, .inl rW)), (b17, .inl (g.2.1 3, 132, .inl rO))]) X hQ hr (hW) rfl [4, 0, 1, 2, 5, 6, 7, 3] rfl rfl (⟨hF.symm, rfl⟩) ⟨Nat.le_of_ble_eq_true rfl, Nat.le_of_ble_eq_true rfl⟩ dX12_mayCall_81
  exact loop1 (lc + 1) 0  (by omega) (by omega) (show F_X12_mayCallN3 rA rB rF rT rW rO lc i a b h = L1_X12_mayCallN3 rA rB rF rT rW rO lc i a b h (lc + 1) 0  from rfl).symm _ _ _ hW (lv_sub hl [0, 1, 2, 3, 4, 5] rfl)

theorem mcN3_eq {rA rB rF rT rW rO : Nat → Int32} {lc i a b : Nat} {h : Int32} : ∀ m j : Nat, L1_X12_mayCallN3 rA rB rF rT rW rO lc i a b h m j = L1_X12_mayCall rA rB rF rT rW rO lc i a b h m j
  | 0, j => rfl
  | m + 1, j => by rw [L1_X12_mayCallN3, L1_X12_mayCall, mcN3_eq m (j + 1)]
def L1_X12_mayCallN4 (rA : Nat → Int32) (rB : Nat → Int32) (rF : Nat → Int32) (rT : Nat → Int32) (rW : Nat → Int32) (rO : Nat → Int32) (lc : Nat) (i : Nat) (a : Nat) (b : Nat) (h : Int32) : Nat → Nat → Int32
  | 0, _ => (0)
  | m_ + 1, j1 => if nI lc ≤ nI j1 then ((0 : Int32)) else (if F_X12_joins rA rB rO (12 * i + j1) (nI a) (nI b) = 0 then (L1_X12_mayCallN4 rA rB rF rT rW rO lc i a b h m_ (j1 + 1) ) else (if F_X12_works rF rT rW (12 * i + j1) h = 0 then (L1_X12_mayCallN4 rA rB rF rT rW rO lc i a b h m_ (j1 + 1) ) else ((1 : Int32))))
def F_X12_mayCallN4 (rA : Nat → Int32) (rB : Nat → Int32) (rF : Nat → Int32) (rT : Nat → Int32) (rW : Nat → Int32) (rO : Nat → Int32) (lc : Nat) (i : Nat) (a : Nat) (b : Nat) (h : Int32) : Int32 := L1_X12_mayCallN4 rA rB rF rT rW rO lc i a b h (lc + 1) 0 
set_option maxHeartbeats 4000000 in
set_option maxRecDepth 100000 in
theorem K_X12_mayCallN4 (l : Launch) (g : GG) (h0 : Nat) (vs : List Value) (b7 : Nat) (rL : Nat → Int32) (b12 : Nat) (rA : Nat → Int32) (b13 : Nat) (rB : Nat → Int32) (b14 : Nat) (rF : Nat → Int32) (b15 : Nat) (rT : Nat → Int32) (b16 : Nat) (rW : Nat → Int32) (b17 : Nat) (rO : Nat → Int32) (lc : Nat) (i : Nat) (a : Nat) (b : Nat) (h : Int32) (mA : Int32) (mB : Int32) (hlen : vs.length = 64) (h7_ : vs[7]? = some (.ref b7)) (h12_ : vs[12]? = some (.ref b12)) (h13_ : vs[13]? = some (.ref b13)) (h14_ : vs[14]? = some (.ref b14)) (h15_ : vs[15]? = some (.ref b15)) (h16_ : vs[16]? = some (.ref b16)) (h17_ : vs[17]? = some (.ref b17)) (h19_ : vs[19]? = some (.int mA)) (h20_ : vs[20]? = some (.int mB)) (hi : i < 11) (ha : a < 7) (hb : b < 7) (hlc : lc ≤ 12) (hL : rL i = nI lc) (q1 : mA = nI a) (q2 : ¬ mB = nI b) (q3 : mA = nI b) (q4 : ¬ mB = nI a) : MetI l g yX12_mayCall cX12_mayCall 6 (some .boolean) 1 0 0 [.ref h0, .int (nI i), .int (nI a), .int (nI b), .int h] [(h0, .inr (12, vs)), (b7, .inl (g.2.1 1, 11, .inl rL)), (b12, .inl (g.2.1 1, 132, .inl rA)), (b13, .inl (g.2.1 1, 132, .inl rB)), (b14, .inl (g.2.1 1, 132, .inl rF)), (b15, .inl (g.2.1 1, 132, .inl rT)), (b16, .inl (g.2.1 1, 132, .inl rW)), (b17, .inl (g.2.1 3, 132, .inl rO))] (fun r u => r = (F_X12_mayCallN4 rA rB rF rT rW rO lc i a b h) ∧ u = [(h0, .inr (12, vs)), (b7, .inl (g.2.1 1, 11, .inl rL)), (b12, .inl (g.2.1 1, 132, .inl rA)), (b13, .inl (g.2.1 1, 132, .inl rB)), (b14, .inl (g.2.1 1, 132, .inl rF)), (b15, .inl (g.2.1 1, 132, .inl rT)), (b16, .inl (g.2.1 1, 132, .inl rW)), (b17, .inl (g.2.1 3, 132, .inl rO))]) := by
  refine MetI.of (own := RX12) rfl (by decide) (Nat.le_of_ble_eq_true rfl) ?_
  intro p e s m below meth c A ls args Q hQ X hr hin hW hl
  have hx := X.1
  have hb := X.2.1
  have hl : lv_has ls 6 [(0, .ref h0), (1, .int (nI i)), (2, .int (nI a)), (3, .int (nI b)), (4, .int h)] := hl
  refine lv_aload_n (pc := 0) hx hb dX12_mayCall_0 rfl (lv_at hl 0 rfl) ?_
  refine r_get X hW 0 ciX12 19 rfl (by decide) m_1250 rfl h19_ dX12_mayCall_1 ?_
  refine lv_iload_n (pc := 4) hx hb dX12_mayCall_4 rfl (lv_at hl 2 rfl) ?_
  refine lv_icmp_ne (tgt := 16) (pc := 5) hx hb dX12_mayCall_5 rfl (fun c1 => absurd q1 c1) (fun c1 => ?_)
  refine lv_aload_n (pc := 8) hx hb dX12_mayCall_8 rfl (lv_at hl 0 rfl) ?_
  refine r_get X hW 0 ciX12 20 rfl (by decide) m_1251 rfl h20_ dX12_mayCall_9 ?_
  refine lv_iload_n (pc := 12) hx hb dX12_mayCall_12 rfl (lv_at hl 3 rfl) ?_
  refine lv_icmp_eq (tgt := 32) (pc := 13) hx hb dX12_mayCall_13 rfl (fun c2 => absurd c2 q2) (fun c2 => ?_)
  refine lv_aload_n (pc := 16) hx hb dX12_mayCall_16 rfl (lv_at hl 0 rfl) ?_
  refine r_get X hW 0 ciX12 19 rfl (by decide) m_1250 rfl h19_ dX12_mayCall_17 ?_
  refine lv_iload_n (pc := 20) hx hb dX12_mayCall_20 rfl (lv_at hl 3 rfl) ?_
  refine lv_icmp_ne (tgt := 34) (pc := 21) hx hb dX12_mayCall_21 rfl (fun c3 => absurd q3 c3) (fun c3 => ?_)
  refine lv_aload_n (pc := 24) hx hb dX12_mayCall_24 rfl (lv_at hl 0 rfl) ?_
  refine r_get X hW 0 ciX12 20 rfl (by decide) m_1251 rfl h20_ dX12_mayCall_25 ?_
  refine lv_iload_n (pc := 28) hx hb dX12_mayCall_28 rfl (lv_at hl 2 rfl) ?_
  refine lv_icmp_ne (tgt := 34) (pc := 29) hx hb dX12_mayCall_29 rfl (fun c4 => ?_) (fun c4 => absurd c4 q4)
  refine lv_iconst (v := 0) (pc := 34) hx hb dX12_mayCall_34 (by decide) ?_
  refine lv_istore (lv' := [(5, .int 0), (0, .ref h0), (1, .int (nI i)), (2, .int (nI a)), (3, .int (nI b)), (4, .int h)]) (pc := 35) hx hb dX12_mayCall_35 hl (by decide) rfl (fun ls hl => ?_)
  have loop1 : ∀ (fu1 : Nat) (j1 : Nat), (lc < fu1 + j1) → (j1 ≤ lc) → (L1_X12_mayCallN4 rA rB rF rT rW rO lc i a b h fu1 j1 = F_X12_mayCallN4 rA rB rF rT rW rO lc i a b h) → ∀ (H : Heap) (locs : List Loc) (ls : Array Slot), WD g A s H locs [(h0, .inr (12, vs)), (b7, .inl (g.2.1 1, 11, .inl rL)), (b12, .inl (g.2.1 1, 132, .inl rA)), (b13, .inl (g.2.1 1, 132, .inl rB)), (b14, .inl (g.2.1 1, 132, .inl rF)), (b15, .inl (g.2.1 1, 132, .inl rT)), (b16, .inl (g.2.1 1, 132, .inl rW)), (b17, .inl (g.2.1 3, 132, .inl rO))] → lv_has ls 6 [(5, .int (nI j1)), (0, .ref h0), (1, .int (nI i)), (2, .int (nI a)), (3, .int (nI b)), (4, .int h)] → W p l e (RM 1 0 0) s m args below meth c H locs 0 0 Q (F0 m 37 ls []) := by
    intro fu1
    induction fu1 with
    | zero =>
      intro j1 hm1 hj1 hst1
      exact absurd hm1 (by omega)
    | succ fu1 ih1 =>
      intro j1 hm1 hj1 hst1 H locs ls hW hl
      refine lv_iload (pc := 37) hx hb dX12_mayCall_37 (lv_at hl 0 rfl) ?_
      refine lv_aload_n (pc := 39) hx hb dX12_mayCall_39 rfl (lv_at hl 1 rfl) ?_
      refine r_get X hW 0 ciX12 7 rfl (by decide) m_1238 rfl h7_ dX12_mayCall_40 ?_
      refine lv_iload_n (pc := 43) hx hb dX12_mayCall_43 rfl (lv_at hl 2 rfl) ?_
      refine r_iald X hW 1 rfl (vp_in_nI (by omega) (by decide)) dX12_mayCall_44 ?_
      refine lv_topi (fun v5 ev5 => ?_)
      obtain rfl : v5 = rL i := ev5.trans (by rw [nI_clamp (by omega)])
      rw [hL]
      refine lv_icmp_ge (tgt := 88) (pc := 45) hx hb dX12_mayCall_45 rfl (fun c6 => ?_) (fun c6 => ?_)
      · have h7 : lc ≤ j1 := (nI_leI (a := lc) (b := j1) (by omega) (by omega)).mp c6
        refine lv_iconst (v := 0) (pc := 88) hx hb dX12_mayCall_88 (by decide) ?_
        have hF : F_X12_mayCallN4 rA rB rF rT rW rO lc i a b h = (0 : Int32) := hst1.symm.trans (show L1_X12_mayCallN4 rA rB rF rT rW rO lc i a b h (fu1 + 1) j1 = (0 : Int32) from by rw [L1_X12_mayCallN4, if_pos c6])
        exact e_z (u := [(h0, .inr (12, vs)), (b7, .inl (g.2.1 1, 11, .inl rL)), (b12, .inl (g.2.1 1, 132, .inl rA)), (b13, .inl (g.2.1 1, 132, .inl rB)), (b14, .inl (g.2.1 1, 132, .inl rF)), (b15, .inl (g.2.1 1, 132, .inl rT)), (b16, .inl (g.2.1 1, 132, .inl rW)), (b17, .inl (g.2.1 3, 132, .inl rO))]) X hQ hr (hW) rfl [0, 1, 2, 3, 4, 5, 6, 7] rfl rfl (⟨hF.symm, rfl⟩) ⟨Nat.le_of_ble_eq_true rfl, Nat.le_of_ble_eq_true rfl⟩ dX12_mayCall_89
      · have h8 : ¬ (lc ≤ j1) := fun q => c6 ((nI_leI (a := lc) (b := j1) (by omega) (by omega)).mpr q)
        refine lv_aload_n (pc := 48) hx hb dX12_mayCall_48 rfl (lv_at hl 1 rfl) ?_
        refine lv_bipush (v := 12) (pc := 49) hx hb dX12_mayCall_49 (by decide) ?_
        refine lv_iload_n (pc := 51) hx hb dX12_mayCall_51 rfl (lv_at hl 2 rfl) ?_
        refine lv_imul (pc := 52) hx hb dX12_mayCall_52 ?_
        refine lv_topi (fun v9 ev9 => ?_)
        obtain rfl : v9 = nI (12 * i) := ev9.trans (pk_mul 12 i)
        refine lv_iload (pc := 53) hx hb dX12_mayCall_53 (lv_at hl 0 rfl) ?_
        refine lv_iadd (pc := 55) hx hb dX12_mayCall_55 ?_
        refine lv_topi (fun v10 ev10 => ?_)
        obtain rfl : v10 = nI (12 * i + j1) := ev10.trans (nI_add _ _)
        refine lv_iload_n (pc := 56) hx hb dX12_mayCall_56 rfl (lv_at hl 3 rfl) ?_
        refine lv_iload_n (pc := 57) hx hb dX12_mayCall_57 rfl (lv_at hl 4 rfl) ?_
        refine c_Vi (pc := 58) (As := [.int (nI (12 * i + j1)), .int (nI a), .int (nI b)]) (rest := []) (wr := [(b7, .inl (g.2.1 1, 11, .inl rL)), (b14, .inl (g.2.1 1, 132, .inl rF)), (b15, .inl (g.2.1 1, 132, .inl rT)), (b16, .inl (g.2.1 1, 132, .inl rW))]) X hW 0 ciX12 rfl (K_X12_joins l g h0 vs b12 rA b13 rB b17 rO (12 * i + j1) (nI a) (nI b) hlen h12_ h13_ h17_ (by omega)) vX12_231 [0, 2, 3, 7] [1, 4, 5, 6] rfl rfl rfl rfl rfl rfl hl.1 rfl (Nat.le_of_ble_eq_true rfl) ⟨Nat.le_of_ble_eq_true rfl, Nat.le_of_ble_eq_true rfl⟩ ⟨Nat.le_of_ble_eq_true rfl, Nat.le_of_ble_eq_true rfl⟩ dX12_mayCall_58 (fun r11 u9 H locs hq hW => ?_)
        obtain ⟨rfl, rfl⟩ := hq
        have hW : WD g A s _ _ [(b7, .inl (g.2.1 1, 11, .inl rL)), (b14, .inl (g.2.1 1, 132, .inl rF)), (b15, .inl (g.2.1 1, 132, .inl rT)), (b16, .inl (g.2.1 1, 132, .inl rW)), (h0, .inr (12, vs)), (b12, .inl (g.2.1 1, 132, .inl rA)), (b13, .inl (g.2.1 1, 132, .inl rB)), (b17, .inl (g.2.1 3, 132, .inl rO))] := hW
        refine lv_if_eq (tgt := 82) (pc := 61) hx hb dX12_mayCall_61 rfl (fun c12 => ?_) (fun c12 => ?_)
        · refine lv_iinc (v := nI (j1 + 1)) (lv' := [(5, .int (nI (j1 + 1))), (0, .ref h0), (1, .int (nI i)), (2, .int (nI a)), (3, .int (nI b)), (4, .int h)]) (pc := 82) hx hb dX12_mayCall_82 hl (k := 0) rfl (nI_add j1 1) (by decide) rfl (fun ls hl => ?_)
          refine lv_goto (tgt := 37) (pc := 85) hx hb dX12_mayCall_85 rfl ?_
          have hW : WD g A s _ _ [(h0, .inr (12, vs)), (b7, .inl (g.2.1 1, 11, .inl rL)), (b12, .inl (g.2.1 1, 132, .inl rA)), (b13, .inl (g.2.1 1, 132, .inl rB)), (b14, .inl (g.2.1 1, 132, .inl rF)), (b15, .inl (g.2.1 1, 132, .inl rT)), (b16, .inl (g.2.1 1, 132, .inl rW)), (b17, .inl (g.2.1 3, 132, .inl rO))] := hW.pick [4, 0, 5, 6, 1, 2, 3, 7] rfl rfl
          exact ih1 (j1 + 1)  (by omega) (by omega) ((show L1_X12_mayCallN4 rA rB rF rT rW rO lc i a b h (fu1 + 1) j1 = L1_X12_mayCallN4 rA rB rF rT rW rO lc i a b h fu1 (j1 + 1)  from by rw [L1_X12_mayCallN4, if_neg c6, if_pos c12]).symm.trans hst1) _ _ _ hW (lv_sub hl [0, 1, 2, 3, 4, 5] rfl)
        · refine lv_aload_n (pc := 64) hx hb dX12_mayCall_64 rfl (lv_at hl 1 rfl) ?_
          refine lv_bipush (v := 12) (pc := 65) hx hb dX12_mayCall_65 (by decide) ?_
          refine lv_iload_n (pc := 67) hx hb dX12_mayCall_67 rfl (lv_at hl 2 rfl) ?_
          refine lv_imul (pc := 68) hx hb dX12_mayCall_68 ?_
          refine lv_topi (fun v15 ev15 => ?_)
          obtain rfl : v15 = nI (12 * i) := ev15.trans (pk_mul 12 i)
          refine lv_iload (pc := 69) hx hb dX12_mayCall_69 (lv_at hl 0 rfl) ?_
          refine lv_iadd (pc := 71) hx hb dX12_mayCall_71 ?_
          refine lv_topi (fun v16 ev16 => ?_)
          obtain rfl : v16 = nI (12 * i + j1) := ev16.trans (nI_add _ _)
          refine lv_iload (pc := 72) hx hb dX12_mayCall_72 (lv_at hl 5 rfl) ?_
          refine c_Vi (pc := 74) (As := [.int (nI (12 * i + j1)), .int h]) (rest := []) (wr := [(b7, .inl (g.2.1 1, 11, .inl rL)), (b12, .inl (g.2.1 1, 132, .inl rA)), (b13, .inl (g.2.1 1, 132, .inl rB)), (b17, .inl (g.2.1 3, 132, .inl rO))]) X hW 4 ciX12 rfl (K_X12_works l g h0 vs b14 rF b15 rT b16 rW (12 * i + j1) h hlen h14_ h15_ h16_ (by omega)) vX12_234 [4, 1, 2, 3] [0, 5, 6, 7] rfl rfl rfl rfl rfl rfl hl.1 rfl (Nat.le_of_ble_eq_true rfl) ⟨Nat.le_of_ble_eq_true rfl, Nat.le_of_ble_eq_true rfl⟩ ⟨Nat.le_of_ble_eq_true rfl, Nat.le_of_ble_eq_true rfl⟩ dX12_mayCall_74 (fun r17 u9 H locs hq hW => ?_)
          obtain ⟨rfl, rfl⟩ := hq
          have hW : WD g A s _ _ [(b7, .inl (g.2.1 1, 11, .inl rL)), (b12, .inl (g.2.1 1, 132, .inl rA)), (b13, .inl (g.2.1 1, 132, .inl rB)), (b17, .inl (g.2.1 3, 132, .inl rO)), (h0, .inr (12, vs)), (b14, .inl (g.2.1 1, 132, .inl rF)), (b15, .inl (g.2.1 1, 132, .inl rT)), (b16, .inl (g.2.1 1, 132, .inl rW))] := hW
          refine lv_if_eq (tgt := 82) (pc := 77) hx hb dX12_mayCall_77 rfl (fun c18 => ?_) (fun c18 => ?_)
          · refine lv_iinc (v := nI (j1 + 1)) (lv' := [(5, .int (nI (j1 + 1))), (0, .ref h0), (1, .int (nI i)), (2, .int (nI a)), (3, .int (nI b)), (4, .int h)]) (pc := 82) hx hb dX12_mayCall_82 hl (k := 0) rfl (nI_add j1 1) (by decide) rfl (fun ls hl => ?_)
            refine lv_goto (tgt := 37) (pc := 85) hx hb dX12_mayCall_85 rfl ?_
            have hW : WD g A s _ _ [(h0, .inr (12, vs)), (b7, .inl (g.2.1 1, 11, .inl rL)), (b12, .inl (g.2.1 1, 132, .inl rA)), (b13, .inl (g.2.1 1, 132, .inl rB)), (b14, .inl (g.2.1 1, 132, .inl rF)), (b15, .inl (g.2.1 1, 132, .inl rT)), (b16, .inl (g.2.1 1, 132, .inl rW)), (b17, .inl (g.2.1 3, 132, .inl rO))] := hW.pick [4, 0, 1, 2, 5, 6, 7, 3] rfl rfl
            exact ih1 (j1 + 1)  (by omega) (by omega) ((show L1_X12_mayCallN4 rA rB rF rT rW rO lc i a b h (fu1 + 1) j1 = L1_X12_mayCallN4 rA rB rF rT rW rO lc i a b h fu1 (j1 + 1)  from by rw [L1_X12_mayCallN4, if_neg c6, if_neg c12, if_pos c18]).symm.trans hst1) _ _ _ hW (lv_sub hl [0, 1, 2, 3, 4, 5] rfl)
          · refine lv_iconst (v := 1) (pc := 80) hx hb dX12_mayCall_80 (by decide) ?_
            have hF : F_X12_mayCallN4 rA rB rF rT rW rO lc i a b h = (1 : Int32) := hst1.symm.trans (show L1_X12_mayCallN4 rA rB rF rT rW rO lc i a b h (fu1 + 1) j1 = (1 : Int32) from by rw [L1_X12_mayCallN4, if_neg c6, if_neg c12, if_neg c18])
            exact e_z (u := [(h0, .inr (12, vs)), (b7, .inl (g.2.1 1, 11, .inl rL)), (b12, .inl (g.2.1 1, 132, .inl rA)), (b13, .inl (g.2.1 1, 132, .inl rB)), (b14, .inl (g.2.1 1, 132, .inl rF)), (b15, .inl (g.2.1 1, 132, .inl rT)), (b16, .inl (g.2.1 1, 132, .inl rW)), (b17, .inl (g.2.1 3, 132, .inl rO))]) X hQ hr (hW) rfl [4, 0, 1, 2, 5, 6, 7, 3] rfl rfl (⟨hF.symm, rfl⟩) ⟨Nat.le_of_ble_eq_true rfl, Nat.le_of_ble_eq_true rfl⟩ dX12_mayCall_81
  exact loop1 (lc + 1) 0  (by omega) (by omega) (show F_X12_mayCallN4 rA rB rF rT rW rO lc i a b h = L1_X12_mayCallN4 rA rB rF rT rW rO lc i a b h (lc + 1) 0  from rfl).symm _ _ _ hW (lv_sub hl [0, 1, 2, 3, 4, 5] rfl)

theorem mcN4_eq {rA rB rF rT rW rO : Nat → Int32} {lc i a b : Nat} {h : Int32} : ∀ m j : Nat, L1_X12_mayCallN4 rA rB rF rT rW rO lc i a b h m j = L1_X12_mayCall rA rB rF rT rW rO lc i a b h m j
  | 0, j => rfl
  | m + 1, j => by rw [L1_X12_mayCallN4, L1_X12_mayCall, mcN4_eq m (j + 1)]
def F_X12_mayCallA (rA rB rF rT rW rO : Nat → Int32) (lc i : Nat) (mA mB : Int32) (a b : Nat) (h : Int32) : Int32 := if mA = nI a ∧ mB = nI b ∨ mA = nI b ∧ mB = nI a then 1 else F_X12_mayCall rA rB rF rT rW rO lc i a b h
theorem K_X12_mayCallA (l : Launch) (g : GG) (h0 : Nat) (vs : List Value) (b7 : Nat) (rL : Nat → Int32) (b12 : Nat) (rA : Nat → Int32) (b13 : Nat) (rB : Nat → Int32) (b14 : Nat) (rF : Nat → Int32) (b15 : Nat) (rT : Nat → Int32) (b16 : Nat) (rW : Nat → Int32) (b17 : Nat) (rO : Nat → Int32) (lc : Nat) (i : Nat) (a : Nat) (b : Nat) (h : Int32) (mA : Int32) (mB : Int32) (hlen : vs.length = 64) (h7_ : vs[7]? = some (.ref b7)) (h12_ : vs[12]? = some (.ref b12)) (h13_ : vs[13]? = some (.ref b13)) (h14_ : vs[14]? = some (.ref b14)) (h15_ : vs[15]? = some (.ref b15)) (h16_ : vs[16]? = some (.ref b16)) (h17_ : vs[17]? = some (.ref b17)) (h19_ : vs[19]? = some (.int mA)) (h20_ : vs[20]? = some (.int mB)) (hi : i < 11) (ha : a < 7) (hb : b < 7) (hlc : lc ≤ 12) (hL : rL i = nI lc) : MetI l g yX12_mayCall cX12_mayCall 6 (some .boolean) 1 0 0 [.ref h0, .int (nI i), .int (nI a), .int (nI b), .int h] [(h0, .inr (12, vs)), (b7, .inl (g.2.1 1, 11, .inl rL)), (b12, .inl (g.2.1 1, 132, .inl rA)), (b13, .inl (g.2.1 1, 132, .inl rB)), (b14, .inl (g.2.1 1, 132, .inl rF)), (b15, .inl (g.2.1 1, 132, .inl rT)), (b16, .inl (g.2.1 1, 132, .inl rW)), (b17, .inl (g.2.1 3, 132, .inl rO))] (fun r u => r = F_X12_mayCallA rA rB rF rT rW rO lc i mA mB a b h ∧ u = [(h0, .inr (12, vs)), (b7, .inl (g.2.1 1, 11, .inl rL)), (b12, .inl (g.2.1 1, 132, .inl rA)), (b13, .inl (g.2.1 1, 132, .inl rB)), (b14, .inl (g.2.1 1, 132, .inl rF)), (b15, .inl (g.2.1 1, 132, .inl rT)), (b16, .inl (g.2.1 1, 132, .inl rW)), (b17, .inl (g.2.1 3, 132, .inl rO))]) := by
  unfold F_X12_mayCallA
  by_cases c : mA = nI a ∧ mB = nI b ∨ mA = nI b ∧ mB = nI a
  · rw [if_pos c]
    by_cases q1 : mA = nI a
    · by_cases q2 : mB = nI b
      · exact MetI.up (K_X12_mayCallY1 l g h0 vs b7 rL b12 rA b13 rB b14 rF b15 rT b16 rW b17 rO lc i a b h mA mB hlen h7_ h12_ h13_ h14_ h15_ h16_ h17_ h19_ h20_ hi ha hb hlc hL q1 q2) (by decide)
      · rcases c with c | c
        · exact absurd c.2 q2
        · exfalso
          exact q2 (by rw [c.2, ← q1, c.1])
    · rcases c with c | c
      · exact absurd c.1 q1
      · exact MetI.up (K_X12_mayCallY2 l g h0 vs b7 rL b12 rA b13 rB b14 rF b15 rT b16 rW b17 rO lc i a b h mA mB hlen h7_ h12_ h13_ h14_ h15_ h16_ h17_ h19_ h20_ hi ha hb hlc hL q1 c.1 c.2) (by decide)
  · rw [if_neg c]
    by_cases q1 : mA = nI a
    · have q2 : ¬ mB = nI b := fun q => c (Or.inl ⟨q1, q⟩)
      by_cases q3 : mA = nI b
      · have q4 : ¬ mB = nI a := fun q => c (Or.inr ⟨q3, q⟩)
        have e := MetI.up (d' := 1) (K_X12_mayCallN4 l g h0 vs b7 rL b12 rA b13 rB b14 rF b15 rT b16 rW b17 rO lc i a b h mA mB hlen h7_ h12_ h13_ h14_ h15_ h16_ h17_ h19_ h20_ hi ha hb hlc hL q1 q2 q3 q4) (by decide)
        unfold F_X12_mayCallN4 at e
        rw [mcN4_eq] at e
        exact e
      · have e := MetI.up (d' := 1) (K_X12_mayCallN2 l g h0 vs b7 rL b12 rA b13 rB b14 rF b15 rT b16 rW b17 rO lc i a b h mA mB hlen h7_ h12_ h13_ h14_ h15_ h16_ h17_ h19_ h20_ hi ha hb hlc hL q1 q2 q3) (by decide)
        unfold F_X12_mayCallN2 at e
        rw [mcN2_eq] at e
        exact e
    · by_cases q2 : mA = nI b
      · have q3 : ¬ mB = nI a := fun q => c (Or.inr ⟨q2, q⟩)
        have e := MetI.up (d' := 1) (K_X12_mayCallN3 l g h0 vs b7 rL b12 rA b13 rB b14 rF b15 rT b16 rW b17 rO lc i a b h mA mB hlen h7_ h12_ h13_ h14_ h15_ h16_ h17_ h19_ h20_ hi ha hb hlc hL q1 q2 q3) (by decide)
        unfold F_X12_mayCallN3 at e
        rw [mcN3_eq] at e
        exact e
      · have e := MetI.up (d' := 1) (K_X12_mayCallN1 l g h0 vs b7 rL b12 rA b13 rB b14 rF b15 rT b16 rW b17 rO lc i a b h mA mB hlen h7_ h12_ h13_ h14_ h15_ h16_ h17_ h19_ h20_ hi ha hb hlc hL q1 q2) (by decide)
        unfold F_X12_mayCallN1 at e
        rw [mcN1_eq] at e
        exact e
def F_X12_leastFromA (rD : Nat → Int32) (rK : Nat → Int32) (rM : Nat → Int32) (rS : Nat → Int32) (rA : Nat → Int32) (rB : Nat → Int32) (rF : Nat → Int32) (rT : Nat → Int32) (rW : Nat → Int32) (rO : Nat → Int32) (gN : Nat → Int32) (i : Nat) (lc : Nat) (pe : Nat) (ni : Nat) (h : Nat) (mA : Int32) (mB : Int32) : Int32 × (Nat → Int32) := ((NDf (rM (4 * i + ni)) (rS (4 * i + ni)) rD i pe (fun h a b => F_X12_mayCallA rA rB rF rT rW rO lc i mA mB a b (nI h)) (25 - h) (rK (4 * i + ni)) (0 : Int32) (F_X12_ask gN)).1, ((NDf (rM (4 * i + ni)) (rS (4 * i + ni)) rD i pe (fun h a b => F_X12_mayCallA rA rB rF rT rW rO lc i mA mB a b (nI h)) (25 - h) (rK (4 * i + ni)) (0 : Int32) (F_X12_ask gN)).2))
set_option maxHeartbeats 4000000 in
set_option maxRecDepth 100000 in
theorem K_X12_leastFromA (l : Launch) (g : GG) (h0 : Nat) (vs : List Value) (b6 : Nat) (rP : Nat → Int32) (b7 : Nat) (rL : Nat → Int32) (b8 : Nat) (rD : Nat → Int32) (b9 : Nat) (rK : Nat → Int32) (b10 : Nat) (rM : Nat → Int32) (b11 : Nat) (rS : Nat → Int32) (b12 : Nat) (rA : Nat → Int32) (b13 : Nat) (rB : Nat → Int32) (b14 : Nat) (rF : Nat → Int32) (b15 : Nat) (rT : Nat → Int32) (b16 : Nat) (rW : Nat → Int32) (b17 : Nat) (rO : Nat → Int32) (b34 : Nat) (gN : Nat → Int32) (i : Nat) (lc : Nat) (pe : Nat) (ni : Nat) (h : Nat) (mA : Int32) (mB : Int32) (hlen : vs.length = 64) (h6_ : vs[6]? = some (.ref b6)) (h7_ : vs[7]? = some (.ref b7)) (h8_ : vs[8]? = some (.ref b8)) (h9_ : vs[9]? = some (.ref b9)) (h10_ : vs[10]? = some (.ref b10)) (h11_ : vs[11]? = some (.ref b11)) (h12_ : vs[12]? = some (.ref b12)) (h13_ : vs[13]? = some (.ref b13)) (h14_ : vs[14]? = some (.ref b14)) (h15_ : vs[15]? = some (.ref b15)) (h16_ : vs[16]? = some (.ref b16)) (h17_ : vs[17]? = some (.ref b17)) (h34_ : vs[34]? = some (.ref b34)) (hi : i < 11) (hlc : lc ≤ 12) (hL : rL i = nI lc) (hpe : pe ≤ 7) (hP : rP i = nI pe) (h19_ : vs[19]? = some (.int mA)) (h20_ : vs[20]? = some (.int mB)) (hni : ni < 4) (hh1 : 1 ≤ h) (hh2 : h ≤ 24) (hkn : ∀ j : Nat, j < 44 → s7 (rK j)) : MetI l g yX12_leastFrom cX12_leastFrom 4 (some .int) 241 0 0 [.ref h0, .int (nI i), .int (nI ni), .int (nI h)] [(h0, .inr (12, vs)), (b6, .inl (g.2.1 1, 11, .inl rP)), (b7, .inl (g.2.1 1, 11, .inl rL)), (b8, .inl (g.2.1 1, 11, .inl rD)), (b9, .inl (g.2.1 1, 44, .inl rK)), (b10, .inl (g.2.1 1, 44, .inl rM)), (b11, .inl (g.2.1 1, 44, .inl rS)), (b12, .inl (g.2.1 1, 132, .inl rA)), (b13, .inl (g.2.1 1, 132, .inl rB)), (b14, .inl (g.2.1 1, 132, .inl rF)), (b15, .inl (g.2.1 1, 132, .inl rT)), (b16, .inl (g.2.1 1, 132, .inl rW)), (b17, .inl (g.2.1 3, 132, .inl rO)), (b34, .inl (g.2.1 0, 425984, .inl gN))] (fun r u => r = (F_X12_leastFromA rD rK rM rS rA rB rF rT rW rO gN i lc pe ni h mA mB).1 ∧ u = [(h0, .inr (12, (((vs.set 37 (.int (nI i))).set 38 (.int (rM (4 * i + ni)))).set 39 (.int (rS (4 * i + ni)))))), (b6, .inl (g.2.1 1, 11, .inl rP)), (b7, .inl (g.2.1 1, 11, .inl rL)), (b8, .inl (g.2.1 1, 11, .inl rD)), (b9, .inl (g.2.1 1, 44, .inl rK)), (b10, .inl (g.2.1 1, 44, .inl rM)), (b11, .inl (g.2.1 1, 44, .inl rS)), (b12, .inl (g.2.1 1, 132, .inl rA)), (b13, .inl (g.2.1 1, 132, .inl rB)), (b14, .inl (g.2.1 1, 132, .inl rF)), (b15, .inl (g.2.1 1, 132, .inl rT)), (b16, .inl (g.2.1 1, 132, .inl rW)), (b17, .inl (g.2.1 3, 132, .inl rO)), (b34, .inl (g.2.1 0, 425984, .inl ((F_X12_leastFromA rD rK rM rS rA rB rF rT rW rO gN i lc pe ni h mA mB).2)))]) := by
  refine MetI.of (own := RX12) rfl (by decide) (Nat.le_of_ble_eq_true rfl) ?_
  intro p e s m below meth c A ls args Q hQ X hr hin hW hl
  have hx := X.1
  have hb := X.2.1
  have hl : lv_has ls 4 [(0, .ref h0), (1, .int (nI i)), (2, .int (nI ni)), (3, .int (nI h))] := hl
  refine lv_aload_n (pc := 0) hx hb dX12_leastFrom_0 rfl (lv_at hl 0 rfl) ?_
  refine lv_iload_n (pc := 1) hx hb dX12_leastFrom_1 rfl (lv_at hl 1 rfl) ?_
  refine lv_iload_n (pc := 2) hx hb dX12_leastFrom_2 rfl (lv_at hl 2 rfl) ?_
  refine c_Vv (pc := 3) (As := [.int (nI i), .int (nI ni)]) (rest := []) (wr := [(b6, .inl (g.2.1 1, 11, .inl rP)), (b7, .inl (g.2.1 1, 11, .inl rL)), (b8, .inl (g.2.1 1, 11, .inl rD)), (b9, .inl (g.2.1 1, 44, .inl rK)), (b12, .inl (g.2.1 1, 132, .inl rA)), (b13, .inl (g.2.1 1, 132, .inl rB)), (b14, .inl (g.2.1 1, 132, .inl rF)), (b15, .inl (g.2.1 1, 132, .inl rT)), (b16, .inl (g.2.1 1, 132, .inl rW)), (b17, .inl (g.2.1 3, 132, .inl rO))]) X hW 0 ciX12 rfl (K_X12_ask l g h0 vs b10 rM b11 rS b34 gN i ni hlen h10_ h11_ h34_ hi hni) vX12_311 [0, 5, 6, 13] [1, 2, 3, 4, 7, 8, 9, 10, 11, 12] rfl rfl rfl rfl rfl rfl hl.1 rfl (Nat.le_of_ble_eq_true rfl) ⟨Nat.le_of_ble_eq_true rfl, Nat.le_of_ble_eq_true rfl⟩ ⟨Nat.le_of_ble_eq_true rfl, Nat.le_of_ble_eq_true rfl⟩ dX12_leastFrom_3 (fun u9 H locs hq hW => ?_)
  obtain rfl := hq
  have hW : WD g A s _ _ [(b6, .inl (g.2.1 1, 11, .inl rP)), (b7, .inl (g.2.1 1, 11, .inl rL)), (b8, .inl (g.2.1 1, 11, .inl rD)), (b9, .inl (g.2.1 1, 44, .inl rK)), (b12, .inl (g.2.1 1, 132, .inl rA)), (b13, .inl (g.2.1 1, 132, .inl rB)), (b14, .inl (g.2.1 1, 132, .inl rF)), (b15, .inl (g.2.1 1, 132, .inl rT)), (b16, .inl (g.2.1 1, 132, .inl rW)), (b17, .inl (g.2.1 3, 132, .inl rO)), (h0, .inr (12, (((vs.set 37 (.int (nI i))).set 38 (.int (rM (4 * i + ni)))).set 39 (.int (rS (4 * i + ni)))))), (b10, .inl (g.2.1 1, 44, .inl rM)), (b11, .inl (g.2.1 1, 44, .inl rS)), (b34, .inl (g.2.1 0, 425984, .inl (F_X12_ask gN)))] := hW
  refine lv_aload_n (pc := 6) hx hb dX12_leastFrom_6 rfl (lv_at hl 0 rfl) ?_
  refine lv_iload_n (pc := 7) hx hb dX12_leastFrom_7 rfl (lv_at hl 3 rfl) ?_
  refine lv_aload_n (pc := 8) hx hb dX12_leastFrom_8 rfl (lv_at hl 0 rfl) ?_
  refine r_get X hW 10 ciX12 9 rfl (by decide) m_1240 rfl (sv_ne (k := 39) (by decide) (sv_ne (k := 38) (by decide) (sv_ne (k := 37) (by decide) h9_))) dX12_leastFrom_9 ?_
  refine lv_iconst (v := 4) (pc := 12) hx hb dX12_leastFrom_12 (by decide) ?_
  refine lv_iload_n (pc := 13) hx hb dX12_leastFrom_13 rfl (lv_at hl 1 rfl) ?_
  refine lv_imul (pc := 14) hx hb dX12_leastFrom_14 ?_
  refine lv_topi (fun v1 ev1 => ?_)
  obtain rfl : v1 = nI (4 * i) := ev1.trans (pk_mul 4 i)
  refine lv_iload_n (pc := 15) hx hb dX12_leastFrom_15 rfl (lv_at hl 2 rfl) ?_
  refine lv_iadd (pc := 16) hx hb dX12_leastFrom_16 ?_
  refine lv_topi (fun v2 ev2 => ?_)
  obtain rfl : v2 = nI (4 * i + ni) := ev2.trans (nI_add _ _)
  refine r_iald X hW 3 rfl (vp_in_nI (by omega) (by decide)) dX12_leastFrom_17 ?_
  refine lv_topi (fun v3 ev3 => ?_)
  obtain rfl : v3 = rK (4 * i + ni) := ev3.trans (by rw [nI_clamp (by omega)])
  refine lv_iconst (v := 0) (pc := 18) hx hb dX12_leastFrom_18 (by decide) ?_
  refine c_Vi (pc := 19) (As := [.int (nI h), .int (rK (4 * i + ni)), .int 0]) (rest := []) (wr := [(b9, .inl (g.2.1 1, 44, .inl rK)), (b10, .inl (g.2.1 1, 44, .inl rM)), (b11, .inl (g.2.1 1, 44, .inl rS))]) X hW 10 ciX12 rfl (K_nh l g h0 (((vs.set 37 (.int (nI i))).set 38 (.int (rM (4 * i + ni)))).set 39 (.int (rS (4 * i + ni)))) (rM (4 * i + ni)) (rS (4 * i + ni)) b6 rP b7 rL b8 rD b12 rA b13 rB b14 rF b15 rT b16 rW b17 rO b34 i lc pe mA mB (fun h a b => F_X12_mayCallA rA rB rF rT rW rO lc i mA mB a b (nI h)) (sv_len (sv_len (sv_len hlen))) (sv_ne (k := 39) (by decide) (sv_eq (k := 38) (n := 64) (by decide) (sv_len hlen))) (sv_eq (k := 39) (n := 64) (by decide) (sv_len (sv_len hlen))) (sv_ne (k := 39) (by decide) (sv_ne (k := 38) (by decide) (sv_ne (k := 37) (by decide) h6_))) (sv_ne (k := 39) (by decide) (sv_ne (k := 38) (by decide) (sv_ne (k := 37) (by decide) h7_))) (sv_ne (k := 39) (by decide) (sv_ne (k := 38) (by decide) (sv_ne (k := 37) (by decide) h8_))) (sv_ne (k := 39) (by decide) (sv_ne (k := 38) (by decide) (sv_ne (k := 37) (by decide) h12_))) (sv_ne (k := 39) (by decide) (sv_ne (k := 38) (by decide) (sv_ne (k := 37) (by decide) h13_))) (sv_ne (k := 39) (by decide) (sv_ne (k := 38) (by decide) (sv_ne (k := 37) (by decide) h14_))) (sv_ne (k := 39) (by decide) (sv_ne (k := 38) (by decide) (sv_ne (k := 37) (by decide) h15_))) (sv_ne (k := 39) (by decide) (sv_ne (k := 38) (by decide) (sv_ne (k := 37) (by decide) h16_))) (sv_ne (k := 39) (by decide) (sv_ne (k := 38) (by decide) (sv_ne (k := 37) (by decide) h17_))) (sv_ne (k := 39) (by decide) (sv_ne (k := 38) (by decide) (sv_ne (k := 37) (by decide) h34_))) (sv_ne (k := 39) (by decide) (sv_ne (k := 38) (by decide) (sv_eq (k := 37) (n := 64) (by decide) hlen))) (sv_ne (k := 39) (by decide) (sv_ne (k := 38) (by decide) (sv_ne (k := 37) (by decide) h19_))) (sv_ne (k := 39) (by decide) (sv_ne (k := 38) (by decide) (sv_ne (k := 37) (by decide) h20_))) hi hlc hL hpe hP (fun h _ _ a b p1 p2 => K_X12_mayCallA l g h0 (((vs.set 37 (.int (nI i))).set 38 (.int (rM (4 * i + ni)))).set 39 (.int (rS (4 * i + ni)))) b7 rL b12 rA b13 rB b14 rF b15 rT b16 rW b17 rO lc i a b (nI h) mA mB (sv_len (sv_len (sv_len hlen))) (sv_ne (k := 39) (by decide) (sv_ne (k := 38) (by decide) (sv_ne (k := 37) (by decide) h7_))) (sv_ne (k := 39) (by decide) (sv_ne (k := 38) (by decide) (sv_ne (k := 37) (by decide) h12_))) (sv_ne (k := 39) (by decide) (sv_ne (k := 38) (by decide) (sv_ne (k := 37) (by decide) h13_))) (sv_ne (k := 39) (by decide) (sv_ne (k := 38) (by decide) (sv_ne (k := 37) (by decide) h14_))) (sv_ne (k := 39) (by decide) (sv_ne (k := 38) (by decide) (sv_ne (k := 37) (by decide) h15_))) (sv_ne (k := 39) (by decide) (sv_ne (k := 38) (by decide) (sv_ne (k := 37) (by decide) h16_))) (sv_ne (k := 39) (by decide) (sv_ne (k := 38) (by decide) (sv_ne (k := 37) (by decide) h17_))) (sv_ne (k := 39) (by decide) (sv_ne (k := 38) (by decide) (sv_ne (k := 37) (by decide) h19_))) (sv_ne (k := 39) (by decide) (sv_ne (k := 38) (by decide) (sv_ne (k := 37) (by decide) h20_))) hi p1 p2 hlc hL) h hh1 (by omega) (F_X12_ask gN) (rK (4 * i + ni)) (0 : Int32) (hkn (4 * i + ni) (by omega)) s7_0) vX12_305 [10, 0, 1, 2, 4, 5, 6, 7, 8, 9, 13] [3, 11, 12] rfl rfl rfl rfl rfl rfl hl.1 rfl (Nat.le_of_ble_eq_true rfl) ⟨Nat.le_of_ble_eq_true rfl, Nat.le_of_ble_eq_true rfl⟩ ⟨Nat.le_of_ble_eq_true rfl, Nat.le_of_ble_eq_true rfl⟩ dX12_leastFrom_19 (fun r4 u9 H locs hq hW => ?_)
  obtain ⟨rfl, rfl⟩ := hq
  have hW : WD g A s _ _ [(b9, .inl (g.2.1 1, 44, .inl rK)), (b10, .inl (g.2.1 1, 44, .inl rM)), (b11, .inl (g.2.1 1, 44, .inl rS)), (h0, .inr (12, (((vs.set 37 (.int (nI i))).set 38 (.int (rM (4 * i + ni)))).set 39 (.int (rS (4 * i + ni)))))), (b6, .inl (g.2.1 1, 11, .inl rP)), (b7, .inl (g.2.1 1, 11, .inl rL)), (b8, .inl (g.2.1 1, 11, .inl rD)), (b12, .inl (g.2.1 1, 132, .inl rA)), (b13, .inl (g.2.1 1, 132, .inl rB)), (b14, .inl (g.2.1 1, 132, .inl rF)), (b15, .inl (g.2.1 1, 132, .inl rT)), (b16, .inl (g.2.1 1, 132, .inl rW)), (b17, .inl (g.2.1 3, 132, .inl rO)), (b34, .inl (g.2.1 0, 425984, .inl ((NDf (rM (4 * i + ni)) (rS (4 * i + ni)) rD i pe (fun h a b => F_X12_mayCallA rA rB rF rT rW rO lc i mA mB a b (nI h)) (25 - h) (rK (4 * i + ni)) (0 : Int32) (F_X12_ask gN)).2)))] := hW
  have hF : F_X12_leastFromA rD rK rM rS rA rB rF rT rW rO gN i lc pe ni h mA mB = ((NDf (rM (4 * i + ni)) (rS (4 * i + ni)) rD i pe (fun h a b => F_X12_mayCallA rA rB rF rT rW rO lc i mA mB a b (nI h)) (25 - h) (rK (4 * i + ni)) (0 : Int32) (F_X12_ask gN)).1, ((NDf (rM (4 * i + ni)) (rS (4 * i + ni)) rD i pe (fun h a b => F_X12_mayCallA rA rB rF rT rW rO lc i mA mB a b (nI h)) (25 - h) (rK (4 * i + ni)) (0 : Int32) (F_X12_ask gN)).2)) := show F_X12_leastFromA rD rK rM rS rA rB rF rT rW rO gN i lc pe ni h mA mB = ((NDf (rM (4 * i + ni)) (rS (4 * i + ni)) rD i pe (fun h a b => F_X12_mayCallA rA rB rF rT rW rO lc i mA mB a b (nI h)) (25 - h) (rK (4 * i + ni)) (0 : Int32) (F_X12_ask gN)).1, ((NDf (rM (4 * i + ni)) (rS (4 * i + ni)) rD i pe (fun h a b => F_X12_mayCallA rA rB rF rT rW rO lc i mA mB a b (nI h)) (25 - h) (rK (4 * i + ni)) (0 : Int32) (F_X12_ask gN)).2)) from rfl
  exact e_i (u := [(h0, .inr (12, (((vs.set 37 (.int (nI i))).set 38 (.int (rM (4 * i + ni)))).set 39 (.int (rS (4 * i + ni)))))), (b6, .inl (g.2.1 1, 11, .inl rP)), (b7, .inl (g.2.1 1, 11, .inl rL)), (b8, .inl (g.2.1 1, 11, .inl rD)), (b9, .inl (g.2.1 1, 44, .inl rK)), (b10, .inl (g.2.1 1, 44, .inl rM)), (b11, .inl (g.2.1 1, 44, .inl rS)), (b12, .inl (g.2.1 1, 132, .inl rA)), (b13, .inl (g.2.1 1, 132, .inl rB)), (b14, .inl (g.2.1 1, 132, .inl rF)), (b15, .inl (g.2.1 1, 132, .inl rT)), (b16, .inl (g.2.1 1, 132, .inl rW)), (b17, .inl (g.2.1 3, 132, .inl rO)), (b34, .inl (g.2.1 0, 425984, .inl ((NDf (rM (4 * i + ni)) (rS (4 * i + ni)) rD i pe (fun h a b => F_X12_mayCallA rA rB rF rT rW rO lc i mA mB a b (nI h)) (25 - h) (rK (4 * i + ni)) (0 : Int32) (F_X12_ask gN)).2)))]) X hQ hr (hW) [3, 4, 5, 6, 0, 1, 2, 7, 8, 9, 10, 11, 12, 13] rfl rfl (⟨(congrArg Prod.fst hF).symm, by rw [hF]⟩) ⟨Nat.le_of_ble_eq_true rfl, Nat.le_of_ble_eq_true rfl⟩ dX12_leastFrom_22

def L1_X12_hasLine (rA : Nat → Int32) (rB : Nat → Int32) (lc : Nat) (i : Nat) (a : Nat) (b : Nat) : Nat → Nat → Int32
  | 0, _ => (0)
  | m_ + 1, j1 => if nI lc ≤ nI j1 then ((0 : Int32)) else (if rA (12 * i + j1) = nI a then (if rB (12 * i + j1) = nI b then ((1 : Int32)) else (if rA (12 * i + j1) = nI b then (if rB (12 * i + j1) = nI a then ((1 : Int32)) else (L1_X12_hasLine rA rB lc i a b m_ (j1 + 1) )) else (L1_X12_hasLine rA rB lc i a b m_ (j1 + 1) ))) else (if rA (12 * i + j1) = nI b then (if rB (12 * i + j1) = nI a then ((1 : Int32)) else (L1_X12_hasLine rA rB lc i a b m_ (j1 + 1) )) else (L1_X12_hasLine rA rB lc i a b m_ (j1 + 1) )))
def F_X12_hasLine (rA : Nat → Int32) (rB : Nat → Int32) (lc : Nat) (i : Nat) (a : Nat) (b : Nat) : Int32 := L1_X12_hasLine rA rB lc i a b (lc + 1) 0 
set_option maxHeartbeats 4000000 in
set_option maxRecDepth 100000 in
theorem K_X12_hasLine (l : Launch) (g : GG) (h0 : Nat) (vs : List Value) (b7 : Nat) (rL : Nat → Int32) (b12 : Nat) (rA : Nat → Int32) (b13 : Nat) (rB : Nat → Int32) (lc : Nat) (i : Nat) (a : Nat) (b : Nat) (hlen : vs.length = 64) (h7_ : vs[7]? = some (.ref b7)) (h12_ : vs[12]? = some (.ref b12)) (h13_ : vs[13]? = some (.ref b13)) (hi : i < 11) (hlc : lc ≤ 12) (hL : rL i = nI lc) : MetI l g yX12_hasLine cX12_hasLine 6 (some .boolean) 0 0 0 [.ref h0, .int (nI i), .int (nI a), .int (nI b)] [(h0, .inr (12, vs)), (b7, .inl (g.2.1 1, 11, .inl rL)), (b12, .inl (g.2.1 1, 132, .inl rA)), (b13, .inl (g.2.1 1, 132, .inl rB))] (fun r u => r = (F_X12_hasLine rA rB lc i a b) ∧ u = [(h0, .inr (12, vs)), (b7, .inl (g.2.1 1, 11, .inl rL)), (b12, .inl (g.2.1 1, 132, .inl rA)), (b13, .inl (g.2.1 1, 132, .inl rB))]) := by
  refine MetI.of (own := RX12) rfl (by decide) (Nat.le_of_ble_eq_true rfl) ?_
  intro p e s m below meth c A ls args Q hQ X hr hin hW hl
  have hx := X.1
  have hb := X.2.1
  have hl : lv_has ls 6 [(0, .ref h0), (1, .int (nI i)), (2, .int (nI a)), (3, .int (nI b))] := hl
  refine lv_iconst (v := 0) (pc := 0) hx hb dX12_hasLine_0 (by decide) ?_
  refine lv_istore (lv' := [(4, .int 0), (0, .ref h0), (1, .int (nI i)), (2, .int (nI a)), (3, .int (nI b))]) (pc := 1) hx hb dX12_hasLine_1 hl (by decide) rfl (fun ls hl => ?_)
  have loop1 : ∀ (fu1 : Nat) (j1 : Nat), (lc < fu1 + j1) → (j1 ≤ lc) → (L1_X12_hasLine rA rB lc i a b fu1 j1 = F_X12_hasLine rA rB lc i a b) → ∀ (H : Heap) (locs : List Loc) (ls : Array Slot), WD g A s H locs [(h0, .inr (12, vs)), (b7, .inl (g.2.1 1, 11, .inl rL)), (b12, .inl (g.2.1 1, 132, .inl rA)), (b13, .inl (g.2.1 1, 132, .inl rB))] → lv_has ls 6 [(4, .int (nI j1)), (0, .ref h0), (1, .int (nI i)), (2, .int (nI a)), (3, .int (nI b))] → W p l e (RM 0 0 0) s m args below meth c H locs 0 0 Q (F0 m 3 ls []) := by
    intro fu1
    induction fu1 with
    | zero =>
      intro j1 hm1 hj1 hst1
      exact absurd hm1 (by omega)
    | succ fu1 ih1 =>
      intro j1 hm1 hj1 hst1 H locs ls hW hl
      refine lv_iload (pc := 3) hx hb dX12_hasLine_3 (lv_at hl 0 rfl) ?_
      refine lv_aload_n (pc := 5) hx hb dX12_hasLine_5 rfl (lv_at hl 1 rfl) ?_
      refine r_get X hW 0 ciX12 7 rfl (by decide) m_1238 rfl h7_ dX12_hasLine_6 ?_
      refine lv_iload_n (pc := 9) hx hb dX12_hasLine_9 rfl (lv_at hl 2 rfl) ?_
      refine r_iald X hW 1 rfl (vp_in_nI (by omega) (by decide)) dX12_hasLine_10 ?_
      refine lv_topi (fun v1 ev1 => ?_)
      obtain rfl : v1 = rL i := ev1.trans (by rw [nI_clamp (by omega)])
      rw [hL]
      refine lv_icmp_ge (tgt := 75) (pc := 11) hx hb dX12_hasLine_11 rfl (fun c2 => ?_) (fun c2 => ?_)
      · have h3 : lc ≤ j1 := (nI_leI (a := lc) (b := j1) (by omega) (by omega)).mp c2
        refine lv_iconst (v := 0) (pc := 75) hx hb dX12_hasLine_75 (by decide) ?_
        have hF : F_X12_hasLine rA rB lc i a b = (0 : Int32) := hst1.symm.trans (show L1_X12_hasLine rA rB lc i a b (fu1 + 1) j1 = (0 : Int32) from by rw [L1_X12_hasLine, if_pos c2])
        exact e_z (u := [(h0, .inr (12, vs)), (b7, .inl (g.2.1 1, 11, .inl rL)), (b12, .inl (g.2.1 1, 132, .inl rA)), (b13, .inl (g.2.1 1, 132, .inl rB))]) X hQ hr (hW) rfl [0, 1, 2, 3] rfl rfl (⟨hF.symm, rfl⟩) ⟨Nat.le_of_ble_eq_true rfl, Nat.le_of_ble_eq_true rfl⟩ dX12_hasLine_76
      · have h4 : ¬ (lc ≤ j1) := fun q => c2 ((nI_leI (a := lc) (b := j1) (by omega) (by omega)).mpr q)
        refine lv_bipush (v := 12) (pc := 14) hx hb dX12_hasLine_14 (by decide) ?_
        refine lv_iload_n (pc := 16) hx hb dX12_hasLine_16 rfl (lv_at hl 2 rfl) ?_
        refine lv_imul (pc := 17) hx hb dX12_hasLine_17 ?_
        refine lv_topi (fun v5 ev5 => ?_)
        obtain rfl : v5 = nI (12 * i) := ev5.trans (pk_mul 12 i)
        refine lv_iload (pc := 18) hx hb dX12_hasLine_18 (lv_at hl 0 rfl) ?_
        refine lv_iadd (pc := 20) hx hb dX12_hasLine_20 ?_
        refine lv_topi (fun v6 ev6 => ?_)
        obtain rfl : v6 = nI (12 * i + j1) := ev6.trans (nI_add _ _)
        refine lv_istore (lv' := [(5, .int (nI (12 * i + j1))), (4, .int (nI j1)), (0, .ref h0), (1, .int (nI i)), (2, .int (nI a)), (3, .int (nI b))]) (pc := 21) hx hb dX12_hasLine_21 hl (by decide) rfl (fun ls hl => ?_)
        refine lv_aload_n (pc := 23) hx hb dX12_hasLine_23 rfl (lv_at hl 2 rfl) ?_
        refine r_get X hW 0 ciX12 12 rfl (by decide) m_1243 rfl h12_ dX12_hasLine_24 ?_
        refine lv_iload (pc := 27) hx hb dX12_hasLine_27 (lv_at hl 0 rfl) ?_
        refine r_iald X hW 2 rfl (vp_in_nI (by omega) (by decide)) dX12_hasLine_29 ?_
        refine lv_topi (fun v7 ev7 => ?_)
        obtain rfl : v7 = rA (12 * i + j1) := ev7.trans (by rw [nI_clamp (by omega)])
        refine lv_iload_n (pc := 30) hx hb dX12_hasLine_30 rfl (lv_at hl 4 rfl) ?_
        refine lv_icmp_ne (tgt := 45) (pc := 31) hx hb dX12_hasLine_31 rfl (fun c8 => ?_) (fun c8 => ?_)
        · refine lv_aload_n (pc := 45) hx hb dX12_hasLine_45 rfl (lv_at hl 2 rfl) ?_
          refine r_get X hW 0 ciX12 12 rfl (by decide) m_1243 rfl h12_ dX12_hasLine_46 ?_
          refine lv_iload (pc := 49) hx hb dX12_hasLine_49 (lv_at hl 0 rfl) ?_
          refine r_iald X hW 2 rfl (vp_in_nI (by omega) (by decide)) dX12_hasLine_51 ?_
          refine lv_topi (fun v10 ev10 => ?_)
          obtain rfl : v10 = rA (12 * i + j1) := ev10.trans (by rw [nI_clamp (by omega)])
          refine lv_iload_n (pc := 52) hx hb dX12_hasLine_52 rfl (lv_at hl 5 rfl) ?_
          refine lv_icmp_ne (tgt := 69) (pc := 53) hx hb dX12_hasLine_53 rfl (fun c11 => ?_) (fun c11 => ?_)
          · refine lv_iinc (v := nI (j1 + 1)) (lv' := [(4, .int (nI (j1 + 1))), (5, .int (nI (12 * i + j1))), (0, .ref h0), (1, .int (nI i)), (2, .int (nI a)), (3, .int (nI b))]) (pc := 69) hx hb dX12_hasLine_69 hl (k := 1) rfl (nI_add j1 1) (by decide) rfl (fun ls hl => ?_)
            refine lv_goto (tgt := 3) (pc := 72) hx hb dX12_hasLine_72 rfl ?_
            exact ih1 (j1 + 1)  (by omega) (by omega) ((show L1_X12_hasLine rA rB lc i a b (fu1 + 1) j1 = L1_X12_hasLine rA rB lc i a b fu1 (j1 + 1)  from by rw [L1_X12_hasLine, if_neg c2, if_neg c8, if_neg c11]).symm.trans hst1) _ _ _ hW (lv_sub hl [0, 2, 3, 4, 5] rfl)
          · refine lv_aload_n (pc := 56) hx hb dX12_hasLine_56 rfl (lv_at hl 2 rfl) ?_
            refine r_get X hW 0 ciX12 13 rfl (by decide) m_1244 rfl h13_ dX12_hasLine_57 ?_
            refine lv_iload (pc := 60) hx hb dX12_hasLine_60 (lv_at hl 0 rfl) ?_
            refine r_iald X hW 3 rfl (vp_in_nI (by omega) (by decide)) dX12_hasLine_62 ?_
            refine lv_topi (fun v14 ev14 => ?_)
            obtain rfl : v14 = rB (12 * i + j1) := ev14.trans (by rw [nI_clamp (by omega)])
            refine lv_iload_n (pc := 63) hx hb dX12_hasLine_63 rfl (lv_at hl 4 rfl) ?_
            refine lv_icmp_ne (tgt := 69) (pc := 64) hx hb dX12_hasLine_64 rfl (fun c15 => ?_) (fun c15 => ?_)
            · refine lv_iinc (v := nI (j1 + 1)) (lv' := [(4, .int (nI (j1 + 1))), (5, .int (nI (12 * i + j1))), (0, .ref h0), (1, .int (nI i)), (2, .int (nI a)), (3, .int (nI b))]) (pc := 69) hx hb dX12_hasLine_69 hl (k := 1) rfl (nI_add j1 1) (by decide) rfl (fun ls hl => ?_)
              refine lv_goto (tgt := 3) (pc := 72) hx hb dX12_hasLine_72 rfl ?_
              exact ih1 (j1 + 1)  (by omega) (by omega) ((show L1_X12_hasLine rA rB lc i a b (fu1 + 1) j1 = L1_X12_hasLine rA rB lc i a b fu1 (j1 + 1)  from by rw [L1_X12_hasLine, if_neg c2, if_neg c8, if_pos c11, if_neg c15]).symm.trans hst1) _ _ _ hW (lv_sub hl [0, 2, 3, 4, 5] rfl)
            · refine lv_iconst (v := 1) (pc := 67) hx hb dX12_hasLine_67 (by decide) ?_
              have hF : F_X12_hasLine rA rB lc i a b = (1 : Int32) := hst1.symm.trans (show L1_X12_hasLine rA rB lc i a b (fu1 + 1) j1 = (1 : Int32) from by rw [L1_X12_hasLine, if_neg c2, if_neg c8, if_pos c11, if_pos c15])
              exact e_z (u := [(h0, .inr (12, vs)), (b7, .inl (g.2.1 1, 11, .inl rL)), (b12, .inl (g.2.1 1, 132, .inl rA)), (b13, .inl (g.2.1 1, 132, .inl rB))]) X hQ hr (hW) rfl [0, 1, 2, 3] rfl rfl (⟨hF.symm, rfl⟩) ⟨Nat.le_of_ble_eq_true rfl, Nat.le_of_ble_eq_true rfl⟩ dX12_hasLine_68
        · refine lv_aload_n (pc := 34) hx hb dX12_hasLine_34 rfl (lv_at hl 2 rfl) ?_
          refine r_get X hW 0 ciX12 13 rfl (by decide) m_1244 rfl h13_ dX12_hasLine_35 ?_
          refine lv_iload (pc := 38) hx hb dX12_hasLine_38 (lv_at hl 0 rfl) ?_
          refine r_iald X hW 3 rfl (vp_in_nI (by omega) (by decide)) dX12_hasLine_40 ?_
          refine lv_topi (fun v19 ev19 => ?_)
          obtain rfl : v19 = rB (12 * i + j1) := ev19.trans (by rw [nI_clamp (by omega)])
          refine lv_iload_n (pc := 41) hx hb dX12_hasLine_41 rfl (lv_at hl 5 rfl) ?_
          refine lv_icmp_eq (tgt := 67) (pc := 42) hx hb dX12_hasLine_42 rfl (fun c20 => ?_) (fun c20 => ?_)
          · refine lv_iconst (v := 1) (pc := 67) hx hb dX12_hasLine_67 (by decide) ?_
            have hF : F_X12_hasLine rA rB lc i a b = (1 : Int32) := hst1.symm.trans (show L1_X12_hasLine rA rB lc i a b (fu1 + 1) j1 = (1 : Int32) from by rw [L1_X12_hasLine, if_neg c2, if_pos c8, if_pos c20])
            exact e_z (u := [(h0, .inr (12, vs)), (b7, .inl (g.2.1 1, 11, .inl rL)), (b12, .inl (g.2.1 1, 132, .inl rA)), (b13, .inl (g.2.1 1, 132, .inl rB))]) X hQ hr (hW) rfl [0, 1, 2, 3] rfl rfl (⟨hF.symm, rfl⟩) ⟨Nat.le_of_ble_eq_true rfl, Nat.le_of_ble_eq_true rfl⟩ dX12_hasLine_68
          · refine lv_aload_n (pc := 45) hx hb dX12_hasLine_45 rfl (lv_at hl 2 rfl) ?_
            refine r_get X hW 0 ciX12 12 rfl (by decide) m_1243 rfl h12_ dX12_hasLine_46 ?_
            refine lv_iload (pc := 49) hx hb dX12_hasLine_49 (lv_at hl 0 rfl) ?_
            refine r_iald X hW 2 rfl (vp_in_nI (by omega) (by decide)) dX12_hasLine_51 ?_
            refine lv_topi (fun v23 ev23 => ?_)
            obtain rfl : v23 = rA (12 * i + j1) := ev23.trans (by rw [nI_clamp (by omega)])
            refine lv_iload_n (pc := 52) hx hb dX12_hasLine_52 rfl (lv_at hl 5 rfl) ?_
            refine lv_icmp_ne (tgt := 69) (pc := 53) hx hb dX12_hasLine_53 rfl (fun c24 => ?_) (fun c24 => ?_)
            · refine lv_iinc (v := nI (j1 + 1)) (lv' := [(4, .int (nI (j1 + 1))), (5, .int (nI (12 * i + j1))), (0, .ref h0), (1, .int (nI i)), (2, .int (nI a)), (3, .int (nI b))]) (pc := 69) hx hb dX12_hasLine_69 hl (k := 1) rfl (nI_add j1 1) (by decide) rfl (fun ls hl => ?_)
              refine lv_goto (tgt := 3) (pc := 72) hx hb dX12_hasLine_72 rfl ?_
              exact ih1 (j1 + 1)  (by omega) (by omega) ((show L1_X12_hasLine rA rB lc i a b (fu1 + 1) j1 = L1_X12_hasLine rA rB lc i a b fu1 (j1 + 1)  from by rw [L1_X12_hasLine, if_neg c2, if_pos c8, if_neg c20, if_neg c24]).symm.trans hst1) _ _ _ hW (lv_sub hl [0, 2, 3, 4, 5] rfl)
            · refine lv_aload_n (pc := 56) hx hb dX12_hasLine_56 rfl (lv_at hl 2 rfl) ?_
              refine r_get X hW 0 ciX12 13 rfl (by decide) m_1244 rfl h13_ dX12_hasLine_57 ?_
              refine lv_iload (pc := 60) hx hb dX12_hasLine_60 (lv_at hl 0 rfl) ?_
              refine r_iald X hW 3 rfl (vp_in_nI (by omega) (by decide)) dX12_hasLine_62 ?_
              refine lv_topi (fun v27 ev27 => ?_)
              obtain rfl : v27 = rB (12 * i + j1) := ev27.trans (by rw [nI_clamp (by omega)])
              refine lv_iload_n (pc := 63) hx hb dX12_hasLine_63 rfl (lv_at hl 4 rfl) ?_
              refine lv_icmp_ne (tgt := 69) (pc := 64) hx hb dX12_hasLine_64 rfl (fun c28 => ?_) (fun c28 => ?_)
              · refine lv_iinc (v := nI (j1 + 1)) (lv' := [(4, .int (nI (j1 + 1))), (5, .int (nI (12 * i + j1))), (0, .ref h0), (1, .int (nI i)), (2, .int (nI a)), (3, .int (nI b))]) (pc := 69) hx hb dX12_hasLine_69 hl (k := 1) rfl (nI_add j1 1) (by decide) rfl (fun ls hl => ?_)
                refine lv_goto (tgt := 3) (pc := 72) hx hb dX12_hasLine_72 rfl ?_
                exact ih1 (j1 + 1)  (by omega) (by omega) ((show L1_X12_hasLine rA rB lc i a b (fu1 + 1) j1 = L1_X12_hasLine rA rB lc i a b fu1 (j1 + 1)  from by rw [L1_X12_hasLine, if_neg c2, if_pos c8, if_neg c20, if_pos c24, if_neg c28]).symm.trans hst1) _ _ _ hW (lv_sub hl [0, 2, 3, 4, 5] rfl)
              · refine lv_iconst (v := 1) (pc := 67) hx hb dX12_hasLine_67 (by decide) ?_
                have hF : F_X12_hasLine rA rB lc i a b = (1 : Int32) := hst1.symm.trans (show L1_X12_hasLine rA rB lc i a b (fu1 + 1) j1 = (1 : Int32) from by rw [L1_X12_hasLine, if_neg c2, if_pos c8, if_neg c20, if_pos c24, if_pos c28])
                exact e_z (u := [(h0, .inr (12, vs)), (b7, .inl (g.2.1 1, 11, .inl rL)), (b12, .inl (g.2.1 1, 132, .inl rA)), (b13, .inl (g.2.1 1, 132, .inl rB))]) X hQ hr (hW) rfl [0, 1, 2, 3] rfl rfl (⟨hF.symm, rfl⟩) ⟨Nat.le_of_ble_eq_true rfl, Nat.le_of_ble_eq_true rfl⟩ dX12_hasLine_68
  exact loop1 (lc + 1) 0  (by omega) (by omega) (show F_X12_hasLine rA rB lc i a b = L1_X12_hasLine rA rB lc i a b (lc + 1) 0  from rfl).symm _ _ _ hW (lv_sub hl [0, 1, 2, 3, 4] rfl)

theorem set_back {vs : List Value} {a b x y z : Value} (hl : vs.length = 64) (h19 : vs[19]? = some (.int (-1))) (h20 : vs[20]? = some (.int (-1))) (h37 : vs[37]? = some x) (h38 : vs[38]? = some y) (h39 : vs[39]? = some z) : ((((((vs.set 19 a).set 20 b).set 37 x).set 38 y).set 39 z).set 19 (.int (-1))).set 20 (.int (-1)) = vs := by
  refine List.ext_getElem? fun k => ?_
  by_cases e1 : k = 20
  · rw [e1, List.getElem?_set_self (by simp only [List.length_set]; omega), h20]
  · rw [List.getElem?_set_ne (Ne.symm e1)]
    by_cases e2 : k = 19
    · rw [e2, List.getElem?_set_self (by simp only [List.length_set]; omega), h19]
    · rw [List.getElem?_set_ne (Ne.symm e2)]
      by_cases e3 : k = 39
      · rw [e3, List.getElem?_set_self (by simp only [List.length_set]; omega), h39]
      · rw [List.getElem?_set_ne (Ne.symm e3)]
        by_cases e4 : k = 38
        · rw [e4, List.getElem?_set_self (by simp only [List.length_set]; omega), h38]
        · rw [List.getElem?_set_ne (Ne.symm e4)]
          by_cases e5 : k = 37
          · rw [e5, List.getElem?_set_self (by simp only [List.length_set]; omega), h37]
          · rw [List.getElem?_set_ne (Ne.symm e5), List.getElem?_set_ne (Ne.symm e1), List.getElem?_set_ne (Ne.symm e2)]
theorem i02_ok {k : Nat} (h : k < 3) : ¬ F_X12_isIn (nI k) 0 2 = 0 := (by decide +kernel : ∀ k : Nat, k < 3 → ¬ F_X12_isIn (nI k) 0 2 = 0) k h
def L2_X12_added1s (rD : Nat → Int32) (rK : Nat → Int32) (rM : Nat → Int32) (rS : Nat → Int32) (rA : Nat → Int32) (rB : Nat → Int32) (rF : Nat → Int32) (rT : Nat → Int32) (rW : Nat → Int32) (rO : Nat → Int32) (i : Nat) (lc : Nat) (pe : Nat) (ni : Nat) (j1 : Nat) (j2 : Nat) (x7_2 : Int32) (x6_2 : Int32) (x5_2 : Int32) (fb34_2 : Nat → Int32) : Int32 × Int32 × Int32 × (Nat → Int32) := if F_X12_hasLine rA rB lc i j1 ((j1 + 1) + j2) = 0 then (if mn2 (25 : Int32) ((F_X12_leastFromA rD rK rM rS rA rB rF rT rW rO fb34_2 i lc pe ni 1 (nI j1) (nI ((j1 + 1) + j2))).1) < x7_2 then ((mn2 (25 : Int32) ((F_X12_leastFromA rD rK rM rS rA rB rF rT rW rO fb34_2 i lc pe ni 1 (nI j1) (nI ((j1 + 1) + j2))).1), nI ((j1 + 1) + j2), nI j1, ((F_X12_leastFromA rD rK rM rS rA rB rF rT rW rO fb34_2 i lc pe ni 1 (nI j1) (nI ((j1 + 1) + j2))).2))) else ((x7_2, x6_2, x5_2, ((F_X12_leastFromA rD rK rM rS rA rB rF rT rW rO fb34_2 i lc pe ni 1 (nI j1) (nI ((j1 + 1) + j2))).2)))) else ((x7_2, x6_2, x5_2, fb34_2))
def L2_X12_added1 (rD : Nat → Int32) (rK : Nat → Int32) (rM : Nat → Int32) (rS : Nat → Int32) (rA : Nat → Int32) (rB : Nat → Int32) (rF : Nat → Int32) (rT : Nat → Int32) (rW : Nat → Int32) (rO : Nat → Int32) (i : Nat) (lc : Nat) (pe : Nat) (ni : Nat) (j1 : Nat) (i0_ : Int32) (i1_ : Int32) (i2_ : Int32) (i3_ : Nat → Int32) : Nat → Int32 × Int32 × Int32 × (Nat → Int32)
  | 0 => (i0_, i1_, i2_, i3_)
  | k_ + 1 => L2_X12_added1s rD rK rM rS rA rB rF rT rW rO i lc pe ni j1 k_ ((L2_X12_added1 rD rK rM rS rA rB rF rT rW rO i lc pe ni j1 i0_ i1_ i2_ i3_ k_).1) ((L2_X12_added1 rD rK rM rS rA rB rF rT rW rO i lc pe ni j1 i0_ i1_ i2_ i3_ k_).2.1) ((L2_X12_added1 rD rK rM rS rA rB rF rT rW rO i lc pe ni j1 i0_ i1_ i2_ i3_ k_).2.2.1) ((L2_X12_added1 rD rK rM rS rA rB rF rT rW rO i lc pe ni j1 i0_ i1_ i2_ i3_ k_).2.2.2)
def L1_X12_added1s (rD : Nat → Int32) (rK : Nat → Int32) (rM : Nat → Int32) (rS : Nat → Int32) (rA : Nat → Int32) (rB : Nat → Int32) (rF : Nat → Int32) (rT : Nat → Int32) (rW : Nat → Int32) (rO : Nat → Int32) (i : Nat) (lc : Nat) (pe : Nat) (ni : Nat) (j1 : Nat) (x7_1 : Int32) (x6_1 : Int32) (x5_1 : Int32) (fb34_1 : Nat → Int32) : Int32 × Int32 × Int32 × (Nat → Int32) := (((L2_X12_added1 rD rK rM rS rA rB rF rT rW rO i lc pe ni j1 x7_1 x6_1 x5_1 fb34_1 (pe - (j1 + 1))).1), ((L2_X12_added1 rD rK rM rS rA rB rF rT rW rO i lc pe ni j1 x7_1 x6_1 x5_1 fb34_1 (pe - (j1 + 1))).2.1), ((L2_X12_added1 rD rK rM rS rA rB rF rT rW rO i lc pe ni j1 x7_1 x6_1 x5_1 fb34_1 (pe - (j1 + 1))).2.2.1), ((L2_X12_added1 rD rK rM rS rA rB rF rT rW rO i lc pe ni j1 x7_1 x6_1 x5_1 fb34_1 (pe - (j1 + 1))).2.2.2))
def L1_X12_added1 (rD : Nat → Int32) (rK : Nat → Int32) (rM : Nat → Int32) (rS : Nat → Int32) (rA : Nat → Int32) (rB : Nat → Int32) (rF : Nat → Int32) (rT : Nat → Int32) (rW : Nat → Int32) (rO : Nat → Int32) (i : Nat) (lc : Nat) (pe : Nat) (ni : Nat) (i0_ : Int32) (i1_ : Int32) (i2_ : Int32) (i3_ : Nat → Int32) : Nat → Int32 × Int32 × Int32 × (Nat → Int32)
  | 0 => (i0_, i1_, i2_, i3_)
  | k_ + 1 => L1_X12_added1s rD rK rM rS rA rB rF rT rW rO i lc pe ni k_ ((L1_X12_added1 rD rK rM rS rA rB rF rT rW rO i lc pe ni i0_ i1_ i2_ i3_ k_).1) ((L1_X12_added1 rD rK rM rS rA rB rF rT rW rO i lc pe ni i0_ i1_ i2_ i3_ k_).2.1) ((L1_X12_added1 rD rK rM rS rA rB rF rT rW rO i lc pe ni i0_ i1_ i2_ i3_ k_).2.2.1) ((L1_X12_added1 rD rK rM rS rA rB rF rT rW rO i lc pe ni i0_ i1_ i2_ i3_ k_).2.2.2)
def F_X12_added1 (rD : Nat → Int32) (rK : Nat → Int32) (rM : Nat → Int32) (rS : Nat → Int32) (rA : Nat → Int32) (rB : Nat → Int32) (rF : Nat → Int32) (rT : Nat → Int32) (rW : Nat → Int32) (rO : Nat → Int32) (gN : Nat → Int32) (i : Nat) (lc : Nat) (pe : Nat) (ni : Nat) (wh : Nat) : Int32 × (Nat → Int32) := if ((L1_X12_added1 rD rK rM rS rA rB rF rT rW rO i lc pe ni (99 : Int32) (-1 : Int32) (-1 : Int32) ((F_X12_leastFrom rD rK rM rS rA rB rF rT rW rO gN i lc pe ni 1).2) pe).2.2.1) = (-1) then (((-1 : Int32), ((L1_X12_added1 rD rK rM rS rA rB rF rT rW rO i lc pe ni (99 : Int32) (-1 : Int32) (-1 : Int32) ((F_X12_leastFrom rD rK rM rS rA rB rF rT rW rO gN i lc pe ni 1).2) pe).2.2.2))) else (if nI wh = 0 then ((((L1_X12_added1 rD rK rM rS rA rB rF rT rW rO i lc pe ni (99 : Int32) (-1 : Int32) (-1 : Int32) ((F_X12_leastFrom rD rK rM rS rA rB rF rT rW rO gN i lc pe ni 1).2) pe).2.2.1), ((L1_X12_added1 rD rK rM rS rA rB rF rT rW rO i lc pe ni (99 : Int32) (-1 : Int32) (-1 : Int32) ((F_X12_leastFrom rD rK rM rS rA rB rF rT rW rO gN i lc pe ni 1).2) pe).2.2.2))) else (if nI wh = 1 then ((((L1_X12_added1 rD rK rM rS rA rB rF rT rW rO i lc pe ni (99 : Int32) (-1 : Int32) (-1 : Int32) ((F_X12_leastFrom rD rK rM rS rA rB rF rT rW rO gN i lc pe ni 1).2) pe).2.1), ((L1_X12_added1 rD rK rM rS rA rB rF rT rW rO i lc pe ni (99 : Int32) (-1 : Int32) (-1 : Int32) ((F_X12_leastFrom rD rK rM rS rA rB rF rT rW rO gN i lc pe ni 1).2) pe).2.2.2))) else (((mn2 (25 : Int32) ((F_X12_leastFrom rD rK rM rS rA rB rF rT rW rO gN i lc pe ni 1).1)) - ((L1_X12_added1 rD rK rM rS rA rB rF rT rW rO i lc pe ni (99 : Int32) (-1 : Int32) (-1 : Int32) ((F_X12_leastFrom rD rK rM rS rA rB rF rT rW rO gN i lc pe ni 1).2) pe).1), ((L1_X12_added1 rD rK rM rS rA rB rF rT rW rO i lc pe ni (99 : Int32) (-1 : Int32) (-1 : Int32) ((F_X12_leastFrom rD rK rM rS rA rB rF rT rW rO gN i lc pe ni 1).2) pe).2.2.2)))))
set_option maxHeartbeats 4000000 in
set_option maxRecDepth 100000 in
theorem K_X12_added1 (l : Launch) (g : GG) (h0 : Nat) (vs : List Value) (nv : Nat) (b6 : Nat) (rP : Nat → Int32) (b7 : Nat) (rL : Nat → Int32) (b8 : Nat) (rD : Nat → Int32) (b9 : Nat) (rK : Nat → Int32) (b10 : Nat) (rM : Nat → Int32) (b11 : Nat) (rS : Nat → Int32) (b12 : Nat) (rA : Nat → Int32) (b13 : Nat) (rB : Nat → Int32) (b14 : Nat) (rF : Nat → Int32) (b15 : Nat) (rT : Nat → Int32) (b16 : Nat) (rW : Nat → Int32) (b17 : Nat) (rO : Nat → Int32) (b34 : Nat) (gN : Nat → Int32) (i : Nat) (lc : Nat) (pe : Nat) (ni : Nat) (wh : Nat) (hlen : vs.length = 64) (h18_ : vs[18]? = some (.int (nI nv))) (h6_ : vs[6]? = some (.ref b6)) (h7_ : vs[7]? = some (.ref b7)) (h8_ : vs[8]? = some (.ref b8)) (h9_ : vs[9]? = some (.ref b9)) (h10_ : vs[10]? = some (.ref b10)) (h11_ : vs[11]? = some (.ref b11)) (h12_ : vs[12]? = some (.ref b12)) (h13_ : vs[13]? = some (.ref b13)) (h14_ : vs[14]? = some (.ref b14)) (h15_ : vs[15]? = some (.ref b15)) (h16_ : vs[16]? = some (.ref b16)) (h17_ : vs[17]? = some (.ref b17)) (h34_ : vs[34]? = some (.ref b34)) (hn : nv ≤ 10) (hv : i < nv) (hlc : lc ≤ 12) (hL : rL i = nI lc) (hpe : pe ≤ 7) (hP : rP i = nI pe) (h19_ : vs[19]? = some (.int (-1))) (h20_ : vs[20]? = some (.int (-1))) (hni : ni < 4) (hwh : wh < 3) (hkn : ∀ j : Nat, j < 44 → s7 (rK j)) : MetI l g yX12_added cX12_added 11 (some .int) 242 0 0 [.ref h0, .int (nI i), .int (nI ni), .int (nI wh)] [(h0, .inr (12, vs)), (b6, .inl (g.2.1 1, 11, .inl rP)), (b7, .inl (g.2.1 1, 11, .inl rL)), (b8, .inl (g.2.1 1, 11, .inl rD)), (b9, .inl (g.2.1 1, 44, .inl rK)), (b10, .inl (g.2.1 1, 44, .inl rM)), (b11, .inl (g.2.1 1, 44, .inl rS)), (b12, .inl (g.2.1 1, 132, .inl rA)), (b13, .inl (g.2.1 1, 132, .inl rB)), (b14, .inl (g.2.1 1, 132, .inl rF)), (b15, .inl (g.2.1 1, 132, .inl rT)), (b16, .inl (g.2.1 1, 132, .inl rW)), (b17, .inl (g.2.1 3, 132, .inl rO)), (b34, .inl (g.2.1 0, 425984, .inl gN))] (fun r u => r = (F_X12_added1 rD rK rM rS rA rB rF rT rW rO gN i lc pe ni wh).1 ∧ u = [(h0, .inr (12, ((((vs.set 0 (.int 0)).set 37 (.int (nI i))).set 38 (.int (rM (4 * i + ni)))).set 39 (.int (rS (4 * i + ni)))))), (b6, .inl (g.2.1 1, 11, .inl rP)), (b7, .inl (g.2.1 1, 11, .inl rL)), (b8, .inl (g.2.1 1, 11, .inl rD)), (b9, .inl (g.2.1 1, 44, .inl rK)), (b10, .inl (g.2.1 1, 44, .inl rM)), (b11, .inl (g.2.1 1, 44, .inl rS)), (b12, .inl (g.2.1 1, 132, .inl rA)), (b13, .inl (g.2.1 1, 132, .inl rB)), (b14, .inl (g.2.1 1, 132, .inl rF)), (b15, .inl (g.2.1 1, 132, .inl rT)), (b16, .inl (g.2.1 1, 132, .inl rW)), (b17, .inl (g.2.1 3, 132, .inl rO)), (b34, .inl (g.2.1 0, 425984, .inl ((F_X12_added1 rD rK rM rS rA rB rF rT rW rO gN i lc pe ni wh).2)))]) := by
  refine MetI.of (own := RX12) rfl (by decide) (Nat.le_of_ble_eq_true rfl) ?_
  intro p e s m below meth c A ls args Q hQ X hr hin hW hl
  have hx := X.1
  have hb := X.2.1
  have hl : lv_has ls 11 [(0, .ref h0), (1, .int (nI i)), (2, .int (nI ni)), (3, .int (nI wh))] := hl
  refine lv_aload_n (pc := 0) hx hb dX12_added_0 rfl (lv_at hl 0 rfl) ?_
  refine lv_iload_n (pc := 1) hx hb dX12_added_1 rfl (lv_at hl 1 rfl) ?_
  refine lv_iload_n (pc := 2) hx hb dX12_added_2 rfl (lv_at hl 2 rfl) ?_
  refine c_Vi (pc := 3) (As := [.int (nI i), .int (nI ni)]) (rest := []) (wr := [(b6, .inl (g.2.1 1, 11, .inl rP)), (b7, .inl (g.2.1 1, 11, .inl rL)), (b8, .inl (g.2.1 1, 11, .inl rD)), (b9, .inl (g.2.1 1, 44, .inl rK)), (b10, .inl (g.2.1 1, 44, .inl rM)), (b11, .inl (g.2.1 1, 44, .inl rS)), (b12, .inl (g.2.1 1, 132, .inl rA)), (b13, .inl (g.2.1 1, 132, .inl rB)), (b14, .inl (g.2.1 1, 132, .inl rF)), (b15, .inl (g.2.1 1, 132, .inl rT)), (b16, .inl (g.2.1 1, 132, .inl rW)), (b17, .inl (g.2.1 3, 132, .inl rO)), (b34, .inl (g.2.1 0, 425984, .inl gN))]) X hW 0 ciX12 rfl (K_X12_isAsked l g h0 vs nv (nI i) (nI ni) hlen h18_ (by omega)) vX12_315 [0] [1, 2, 3, 4, 5, 6, 7, 8, 9, 10, 11, 12, 13] rfl rfl rfl rfl rfl rfl hl.1 rfl (Nat.le_of_ble_eq_true rfl) ⟨Nat.le_of_ble_eq_true rfl, Nat.le_of_ble_eq_true rfl⟩ ⟨Nat.le_of_ble_eq_true rfl, Nat.le_of_ble_eq_true rfl⟩ dX12_added_3 (fun r1 u9 H locs hq hW => ?_)
  obtain ⟨rfl, rfl⟩ := hq
  have hW : WD g A s _ _ [(b6, .inl (g.2.1 1, 11, .inl rP)), (b7, .inl (g.2.1 1, 11, .inl rL)), (b8, .inl (g.2.1 1, 11, .inl rD)), (b9, .inl (g.2.1 1, 44, .inl rK)), (b10, .inl (g.2.1 1, 44, .inl rM)), (b11, .inl (g.2.1 1, 44, .inl rS)), (b12, .inl (g.2.1 1, 132, .inl rA)), (b13, .inl (g.2.1 1, 132, .inl rB)), (b14, .inl (g.2.1 1, 132, .inl rF)), (b15, .inl (g.2.1 1, 132, .inl rT)), (b16, .inl (g.2.1 1, 132, .inl rW)), (b17, .inl (g.2.1 3, 132, .inl rO)), (b34, .inl (g.2.1 0, 425984, .inl gN)), (h0, .inr (12, (vs.set 0 (.int 0))))] := hW
  refine lv_if_eq (tgt := 18) (pc := 6) hx hb dX12_added_6 rfl (fun c2 => absurd c2 (ask_ok hn hv hni)) (fun c2 => ?_)
  refine lv_iload_n (pc := 9) hx hb dX12_added_9 rfl (lv_at hl 3 rfl) ?_
  refine lv_iconst (v := 0) (pc := 10) hx hb dX12_added_10 (by decide) ?_
  refine lv_iconst (v := 2) (pc := 11) hx hb dX12_added_11 (by decide) ?_
  refine c_Si (pc := 12) (As := [.int (nI wh), .int 0, .int 2]) (rest := []) (wr := [(b6, .inl (g.2.1 1, 11, .inl rP)), (b7, .inl (g.2.1 1, 11, .inl rL)), (b8, .inl (g.2.1 1, 11, .inl rD)), (b9, .inl (g.2.1 1, 44, .inl rK)), (b10, .inl (g.2.1 1, 44, .inl rM)), (b11, .inl (g.2.1 1, 44, .inl rS)), (b12, .inl (g.2.1 1, 132, .inl rA)), (b13, .inl (g.2.1 1, 132, .inl rB)), (b14, .inl (g.2.1 1, 132, .inl rF)), (b15, .inl (g.2.1 1, 132, .inl rT)), (b16, .inl (g.2.1 1, 132, .inl rW)), (b17, .inl (g.2.1 3, 132, .inl rO)), (b34, .inl (g.2.1 0, 425984, .inl gN)), (h0, .inr (12, (vs.set 0 (.int 0))))]) X hW (K_X12_isIn l g (nI wh) (0 : Int32) (2 : Int32)) vX12_198 [] [0, 1, 2, 3, 4, 5, 6, 7, 8, 9, 10, 11, 12, 13] rfl rfl rfl rfl rfl rfl hl.1 rfl (Nat.le_of_ble_eq_true rfl) ⟨Nat.le_of_ble_eq_true rfl, Nat.le_of_ble_eq_true rfl⟩ ⟨Nat.le_of_ble_eq_true rfl, Nat.le_of_ble_eq_true rfl⟩ dX12_added_12 (fun r3 u9 H locs hq hW => ?_)
  obtain ⟨rfl, rfl⟩ := hq
  have hW : WD g A s _ _ [(b6, .inl (g.2.1 1, 11, .inl rP)), (b7, .inl (g.2.1 1, 11, .inl rL)), (b8, .inl (g.2.1 1, 11, .inl rD)), (b9, .inl (g.2.1 1, 44, .inl rK)), (b10, .inl (g.2.1 1, 44, .inl rM)), (b11, .inl (g.2.1 1, 44, .inl rS)), (b12, .inl (g.2.1 1, 132, .inl rA)), (b13, .inl (g.2.1 1, 132, .inl rB)), (b14, .inl (g.2.1 1, 132, .inl rF)), (b15, .inl (g.2.1 1, 132, .inl rT)), (b16, .inl (g.2.1 1, 132, .inl rW)), (b17, .inl (g.2.1 3, 132, .inl rO)), (b34, .inl (g.2.1 0, 425984, .inl gN)), (h0, .inr (12, (vs.set 0 (.int 0))))] := hW
  refine lv_if_ne (tgt := 20) (pc := 15) hx hb dX12_added_15 rfl (fun c4 => ?_) (fun c4 => absurd c4 (i02_ok hwh))
  refine lv_bipush (v := 25) (pc := 20) hx hb dX12_added_20 (by decide) ?_
  refine lv_aload_n (pc := 22) hx hb dX12_added_22 rfl (lv_at hl 0 rfl) ?_
  refine lv_iload_n (pc := 23) hx hb dX12_added_23 rfl (lv_at hl 1 rfl) ?_
  refine lv_iload_n (pc := 24) hx hb dX12_added_24 rfl (lv_at hl 2 rfl) ?_
  refine lv_iconst (v := 1) (pc := 25) hx hb dX12_added_25 (by decide) ?_
  refine c_Vi (pc := 26) (As := [.int (nI i), .int (nI ni), .int 1]) (rest := [.int 25]) (wr := []) X hW 13 ciX12 rfl (K_X12_leastFrom l g h0 (vs.set 0 (.int 0)) b6 rP b7 rL b8 rD b9 rK b10 rM b11 rS b12 rA b13 rB b14 rF b15 rT b16 rW b17 rO b34 gN i lc pe ni 1 (sv_len hlen) (sv_ne (k := 0) (by decide) h6_) (sv_ne (k := 0) (by decide) h7_) (sv_ne (k := 0) (by decide) h8_) (sv_ne (k := 0) (by decide) h9_) (sv_ne (k := 0) (by decide) h10_) (sv_ne (k := 0) (by decide) h11_) (sv_ne (k := 0) (by decide) h12_) (sv_ne (k := 0) (by decide) h13_) (sv_ne (k := 0) (by decide) h14_) (sv_ne (k := 0) (by decide) h15_) (sv_ne (k := 0) (by decide) h16_) (sv_ne (k := 0) (by decide) h17_) (sv_ne (k := 0) (by decide) h34_) (by omega) hlc hL hpe hP (sv_ne (k := 0) (by decide) h19_) (sv_ne (k := 0) (by decide) h20_) hni (by omega) (by omega) hkn) vX12_318 [13, 0, 1, 2, 3, 4, 5, 6, 7, 8, 9, 10, 11, 12] [] rfl rfl rfl rfl rfl rfl hl.1 rfl (Nat.le_of_ble_eq_true rfl) ⟨Nat.le_of_ble_eq_true rfl, Nat.le_of_ble_eq_true rfl⟩ ⟨Nat.le_of_ble_eq_true rfl, Nat.le_of_ble_eq_true rfl⟩ dX12_added_26 (fun r5 u9 H locs hq hW => ?_)
  obtain ⟨rfl, rfl⟩ := hq
  have hW : WD g A s _ _ [(h0, .inr (12, ((((vs.set 0 (.int 0)).set 37 (.int (nI i))).set 38 (.int (rM (4 * i + ni)))).set 39 (.int (rS (4 * i + ni)))))), (b6, .inl (g.2.1 1, 11, .inl rP)), (b7, .inl (g.2.1 1, 11, .inl rL)), (b8, .inl (g.2.1 1, 11, .inl rD)), (b9, .inl (g.2.1 1, 44, .inl rK)), (b10, .inl (g.2.1 1, 44, .inl rM)), (b11, .inl (g.2.1 1, 44, .inl rS)), (b12, .inl (g.2.1 1, 132, .inl rA)), (b13, .inl (g.2.1 1, 132, .inl rB)), (b14, .inl (g.2.1 1, 132, .inl rF)), (b15, .inl (g.2.1 1, 132, .inl rT)), (b16, .inl (g.2.1 1, 132, .inl rW)), (b17, .inl (g.2.1 3, 132, .inl rO)), (b34, .inl (g.2.1 0, 425984, .inl ((F_X12_leastFrom rD rK rM rS rA rB rF rT rW rO gN i lc pe ni 1).2)))] := hW
  refine va_mmin (pc := 29) hx hb (X.2.2.1.trans hl.1.symm) X.2.2.2.1 (X.2.2.2.2.1 _ mm_X12_29) (X.2.2.2.2.1 _ mms_min) (X.2.2.2.2.1 _ m_19) (X.2.2.2.2.1 _ mmc_min) (Nat.le_of_ble_eq_true rfl) (Nat.le_of_ble_eq_true rfl) (Nat.le_of_ble_eq_true rfl) (Nat.le_of_ble_eq_true rfl) dX12_added_29 ?_
  refine lv_topi (fun v6 ev6 => ?_)
  obtain rfl : v6 = mn2 (25 : Int32) ((F_X12_leastFrom rD rK rM rS rA rB rF rT rW rO gN i lc pe ni 1).1) := ev6.trans (rfl)
  refine lv_istore (lv' := [(4, .int (mn2 (25 : Int32) ((F_X12_leastFrom rD rK rM rS rA rB rF rT rW rO gN i lc pe ni 1).1))), (0, .ref h0), (1, .int (nI i)), (2, .int (nI ni)), (3, .int (nI wh))]) (pc := 32) hx hb dX12_added_32 hl (by decide) rfl (fun ls hl => ?_)
  refine lv_iconst (v := (-1)) (pc := 34) hx hb dX12_added_34 (by decide) ?_
  refine lv_istore (lv' := [(5, .int (-1)), (4, .int (mn2 (25 : Int32) ((F_X12_leastFrom rD rK rM rS rA rB rF rT rW rO gN i lc pe ni 1).1))), (0, .ref h0), (1, .int (nI i)), (2, .int (nI ni)), (3, .int (nI wh))]) (pc := 35) hx hb dX12_added_35 hl (by decide) rfl (fun ls hl => ?_)
  refine lv_iconst (v := (-1)) (pc := 37) hx hb dX12_added_37 (by decide) ?_
  refine lv_istore (lv' := [(6, .int (-1)), (5, .int (-1)), (4, .int (mn2 (25 : Int32) ((F_X12_leastFrom rD rK rM rS rA rB rF rT rW rO gN i lc pe ni 1).1))), (0, .ref h0), (1, .int (nI i)), (2, .int (nI ni)), (3, .int (nI wh))]) (pc := 38) hx hb dX12_added_38 hl (by decide) rfl (fun ls hl => ?_)
  refine lv_bipush (v := 99) (pc := 40) hx hb dX12_added_40 (by decide) ?_
  refine lv_istore (lv' := [(7, .int 99), (6, .int (-1)), (5, .int (-1)), (4, .int (mn2 (25 : Int32) ((F_X12_leastFrom rD rK rM rS rA rB rF rT rW rO gN i lc pe ni 1).1))), (0, .ref h0), (1, .int (nI i)), (2, .int (nI ni)), (3, .int (nI wh))]) (pc := 42) hx hb dX12_added_42 hl (by decide) rfl (fun ls hl => ?_)
  refine lv_iconst (v := 0) (pc := 44) hx hb dX12_added_44 (by decide) ?_
  refine lv_istore (lv' := [(8, .int 0), (7, .int 99), (6, .int (-1)), (5, .int (-1)), (4, .int (mn2 (25 : Int32) ((F_X12_leastFrom rD rK rM rS rA rB rF rT rW rO gN i lc pe ni 1).1))), (0, .ref h0), (1, .int (nI i)), (2, .int (nI ni)), (3, .int (nI wh))]) (pc := 45) hx hb dX12_added_45 hl (by decide) rfl (fun ls hl => ?_)
  have loop1 : ∀ (fu1 : Nat) (j1 : Nat) (x7_1 : Int32) (x6_1 : Int32) (x5_1 : Int32) (fb34_1 : Nat → Int32), (pe < fu1 + j1) → (j1 ≤ pe) → ((x7_1, x6_1, x5_1, fb34_1) = L1_X12_added1 rD rK rM rS rA rB rF rT rW rO i lc pe ni (99 : Int32) (-1 : Int32) (-1 : Int32) ((F_X12_leastFrom rD rK rM rS rA rB rF rT rW rO gN i lc pe ni 1).2) j1) → ∀ (H : Heap) (locs : List Loc) (ls : Array Slot), WD g A s H locs [(h0, .inr (12, ((((vs.set 0 (.int 0)).set 37 (.int (nI i))).set 38 (.int (rM (4 * i + ni)))).set 39 (.int (rS (4 * i + ni)))))), (b6, .inl (g.2.1 1, 11, .inl rP)), (b7, .inl (g.2.1 1, 11, .inl rL)), (b8, .inl (g.2.1 1, 11, .inl rD)), (b9, .inl (g.2.1 1, 44, .inl rK)), (b10, .inl (g.2.1 1, 44, .inl rM)), (b11, .inl (g.2.1 1, 44, .inl rS)), (b12, .inl (g.2.1 1, 132, .inl rA)), (b13, .inl (g.2.1 1, 132, .inl rB)), (b14, .inl (g.2.1 1, 132, .inl rF)), (b15, .inl (g.2.1 1, 132, .inl rT)), (b16, .inl (g.2.1 1, 132, .inl rW)), (b17, .inl (g.2.1 3, 132, .inl rO)), (b34, .inl (g.2.1 0, 425984, .inl fb34_1))] → lv_has ls 11 [(8, .int (nI j1)), (7, .int x7_1), (6, .int x6_1), (5, .int x5_1), (4, .int (mn2 (25 : Int32) ((F_X12_leastFrom rD rK rM rS rA rB rF rT rW rO gN i lc pe ni 1).1))), (0, .ref h0), (1, .int (nI i)), (2, .int (nI ni)), (3, .int (nI wh))] → W p l e (RM 242 0 0) s m args below meth c H locs 0 0 Q (F0 m 47 ls []) := by
    intro fu1
    induction fu1 with
    | zero =>
      intro j1 x7_1 x6_1 x5_1 fb34_1 hm1 hj1 hst1
      exact absurd hm1 (by omega)
    | succ fu1 ih1 =>
      intro j1 x7_1 x6_1 x5_1 fb34_1 hm1 hj1 hst1 H locs ls hW hl
      refine lv_iload (pc := 47) hx hb dX12_added_47 (lv_at hl 0 rfl) ?_
      refine lv_aload_n (pc := 49) hx hb dX12_added_49 rfl (lv_at hl 5 rfl) ?_
      refine r_get X hW 0 ciX12 6 rfl (by decide) m_1237 rfl (sv_ne (k := 39) (by decide) (sv_ne (k := 38) (by decide) (sv_ne (k := 37) (by decide) (sv_ne (k := 0) (by decide) h6_)))) dX12_added_50 ?_
      refine lv_iload_n (pc := 53) hx hb dX12_added_53 rfl (lv_at hl 6 rfl) ?_
      refine r_iald X hW 1 rfl (vp_in_nI (by omega) (by decide)) dX12_added_54 ?_
      refine lv_topi (fun v7 ev7 => ?_)
      obtain rfl : v7 = rP i := ev7.trans (by rw [nI_clamp (by omega)])
      rw [hP]
      refine lv_icmp_ge (tgt := 160) (pc := 55) hx hb dX12_added_55 rfl (fun c8 => ?_) (fun c8 => ?_)
      · have h9 : pe ≤ j1 := (nI_leI (a := pe) (b := j1) (by omega) (by omega)).mp c8
        have hN1 : j1 = pe := by omega
        rw [hN1] at hst1
        have hs1_0 : (L1_X12_added1 rD rK rM rS rA rB rF rT rW rO i lc pe ni (99 : Int32) (-1 : Int32) (-1 : Int32) ((F_X12_leastFrom rD rK rM rS rA rB rF rT rW rO gN i lc pe ni 1).2) pe).1 = x7_1 := (congrArg (fun z => z.1) hst1).symm
        have hs1_1 : (L1_X12_added1 rD rK rM rS rA rB rF rT rW rO i lc pe ni (99 : Int32) (-1 : Int32) (-1 : Int32) ((F_X12_leastFrom rD rK rM rS rA rB rF rT rW rO gN i lc pe ni 1).2) pe).2.1 = x6_1 := (congrArg (fun z => z.2.1) hst1).symm
        have hs1_2 : (L1_X12_added1 rD rK rM rS rA rB rF rT rW rO i lc pe ni (99 : Int32) (-1 : Int32) (-1 : Int32) ((F_X12_leastFrom rD rK rM rS rA rB rF rT rW rO gN i lc pe ni 1).2) pe).2.2.1 = x5_1 := (congrArg (fun z => z.2.2.1) hst1).symm
        have hs1_3 : (L1_X12_added1 rD rK rM rS rA rB rF rT rW rO i lc pe ni (99 : Int32) (-1 : Int32) (-1 : Int32) ((F_X12_leastFrom rD rK rM rS rA rB rF rT rW rO gN i lc pe ni 1).2) pe).2.2.2 = fb34_1 := (congrArg (fun z => z.2.2.2) hst1).symm
        clear hst1
        subst hs1_0
        subst hs1_1
        subst hs1_2
        subst hs1_3
        have hW : WD g A s _ _ [(h0, .inr (12, ((((vs.set 0 (.int 0)).set 37 (.int (nI i))).set 38 (.int (rM (4 * i + ni)))).set 39 (.int (rS (4 * i + ni)))))), (b6, .inl (g.2.1 1, 11, .inl rP)), (b7, .inl (g.2.1 1, 11, .inl rL)), (b8, .inl (g.2.1 1, 11, .inl rD)), (b9, .inl (g.2.1 1, 44, .inl rK)), (b10, .inl (g.2.1 1, 44, .inl rM)), (b11, .inl (g.2.1 1, 44, .inl rS)), (b12, .inl (g.2.1 1, 132, .inl rA)), (b13, .inl (g.2.1 1, 132, .inl rB)), (b14, .inl (g.2.1 1, 132, .inl rF)), (b15, .inl (g.2.1 1, 132, .inl rT)), (b16, .inl (g.2.1 1, 132, .inl rW)), (b17, .inl (g.2.1 3, 132, .inl rO)), (b34, .inl (g.2.1 0, 425984, .inl ((L1_X12_added1 rD rK rM rS rA rB rF rT rW rO i lc pe ni (99 : Int32) (-1 : Int32) (-1 : Int32) ((F_X12_leastFrom rD rK rM rS rA rB rF rT rW rO gN i lc pe ni 1).2) pe).2.2.2)))] := hW
        refine lv_iload (pc := 160) hx hb dX12_added_160 (lv_at hl 3 rfl) ?_
        refine lv_iconst (v := (-1)) (pc := 162) hx hb dX12_added_162 (by decide) ?_
        refine lv_icmp_ne (tgt := 170) (pc := 163) hx hb dX12_added_163 rfl (fun c10 => ?_) (fun c10 => ?_)
        · refine lv_iload_n (pc := 170) hx hb dX12_added_170 rfl (lv_at hl 8 rfl) ?_
          refine lv_if_ne (tgt := 179) (pc := 171) hx hb dX12_added_171 rfl (fun c12 => ?_) (fun c12 => ?_)
          · have h13 : ¬ (wh = 0) := fun q => c12 ((nI_eq (a := wh) (b := 0) (by omega) (by omega)).mpr q)
            refine lv_iload_n (pc := 179) hx hb dX12_added_179 rfl (lv_at hl 8 rfl) ?_
            refine lv_iconst (v := 1) (pc := 180) hx hb dX12_added_180 (by decide) ?_
            refine lv_icmp_ne (tgt := 189) (pc := 181) hx hb dX12_added_181 rfl (fun c14 => ?_) (fun c14 => ?_)
            · have h15 : ¬ (wh = 1) := fun q => c14 ((nI_eq (a := wh) (b := 1) (by omega) (by omega)).mpr q)
              refine lv_iload (pc := 189) hx hb dX12_added_189 (lv_at hl 4 rfl) ?_
              refine lv_iload (pc := 191) hx hb dX12_added_191 (lv_at hl 1 rfl) ?_
              refine lv_isub (pc := 193) hx hb dX12_added_193 ?_
              have hF : F_X12_added1 rD rK rM rS rA rB rF rT rW rO gN i lc pe ni wh = ((mn2 (25 : Int32) ((F_X12_leastFrom rD rK rM rS rA rB rF rT rW rO gN i lc pe ni 1).1)) - ((L1_X12_added1 rD rK rM rS rA rB rF rT rW rO i lc pe ni (99 : Int32) (-1 : Int32) (-1 : Int32) ((F_X12_leastFrom rD rK rM rS rA rB rF rT rW rO gN i lc pe ni 1).2) pe).1), ((L1_X12_added1 rD rK rM rS rA rB rF rT rW rO i lc pe ni (99 : Int32) (-1 : Int32) (-1 : Int32) ((F_X12_leastFrom rD rK rM rS rA rB rF rT rW rO gN i lc pe ni 1).2) pe).2.2.2)) := show F_X12_added1 rD rK rM rS rA rB rF rT rW rO gN i lc pe ni wh = ((mn2 (25 : Int32) ((F_X12_leastFrom rD rK rM rS rA rB rF rT rW rO gN i lc pe ni 1).1)) - ((L1_X12_added1 rD rK rM rS rA rB rF rT rW rO i lc pe ni (99 : Int32) (-1 : Int32) (-1 : Int32) ((F_X12_leastFrom rD rK rM rS rA rB rF rT rW rO gN i lc pe ni 1).2) pe).1), ((L1_X12_added1 rD rK rM rS rA rB rF rT rW rO i lc pe ni (99 : Int32) (-1 : Int32) (-1 : Int32) ((F_X12_leastFrom rD rK rM rS rA rB rF rT rW rO gN i lc pe ni 1).2) pe).2.2.2)) from by rw [F_X12_added1, if_neg c10, if_neg c12, if_neg c14]
              exact e_i (u := [(h0, .inr (12, ((((vs.set 0 (.int 0)).set 37 (.int (nI i))).set 38 (.int (rM (4 * i + ni)))).set 39 (.int (rS (4 * i + ni)))))), (b6, .inl (g.2.1 1, 11, .inl rP)), (b7, .inl (g.2.1 1, 11, .inl rL)), (b8, .inl (g.2.1 1, 11, .inl rD)), (b9, .inl (g.2.1 1, 44, .inl rK)), (b10, .inl (g.2.1 1, 44, .inl rM)), (b11, .inl (g.2.1 1, 44, .inl rS)), (b12, .inl (g.2.1 1, 132, .inl rA)), (b13, .inl (g.2.1 1, 132, .inl rB)), (b14, .inl (g.2.1 1, 132, .inl rF)), (b15, .inl (g.2.1 1, 132, .inl rT)), (b16, .inl (g.2.1 1, 132, .inl rW)), (b17, .inl (g.2.1 3, 132, .inl rO)), (b34, .inl (g.2.1 0, 425984, .inl ((L1_X12_added1 rD rK rM rS rA rB rF rT rW rO i lc pe ni (99 : Int32) (-1 : Int32) (-1 : Int32) ((F_X12_leastFrom rD rK rM rS rA rB rF rT rW rO gN i lc pe ni 1).2) pe).2.2.2)))]) X hQ hr (hW) [0, 1, 2, 3, 4, 5, 6, 7, 8, 9, 10, 11, 12, 13] rfl rfl (⟨(congrArg Prod.fst hF).symm, by rw [hF]⟩) ⟨Nat.le_of_ble_eq_true rfl, Nat.le_of_ble_eq_true rfl⟩ dX12_added_194
            · have h16 : wh = 1 := (nI_eq (a := wh) (b := 1) (by omega) (by omega)).mp c14
              refine lv_iload (pc := 184) hx hb dX12_added_184 (lv_at hl 2 rfl) ?_
              refine lv_goto (tgt := 194) (pc := 186) hx hb dX12_added_186 rfl ?_
              have hF : F_X12_added1 rD rK rM rS rA rB rF rT rW rO gN i lc pe ni wh = (((L1_X12_added1 rD rK rM rS rA rB rF rT rW rO i lc pe ni (99 : Int32) (-1 : Int32) (-1 : Int32) ((F_X12_leastFrom rD rK rM rS rA rB rF rT rW rO gN i lc pe ni 1).2) pe).2.1), ((L1_X12_added1 rD rK rM rS rA rB rF rT rW rO i lc pe ni (99 : Int32) (-1 : Int32) (-1 : Int32) ((F_X12_leastFrom rD rK rM rS rA rB rF rT rW rO gN i lc pe ni 1).2) pe).2.2.2)) := show F_X12_added1 rD rK rM rS rA rB rF rT rW rO gN i lc pe ni wh = (((L1_X12_added1 rD rK rM rS rA rB rF rT rW rO i lc pe ni (99 : Int32) (-1 : Int32) (-1 : Int32) ((F_X12_leastFrom rD rK rM rS rA rB rF rT rW rO gN i lc pe ni 1).2) pe).2.1), ((L1_X12_added1 rD rK rM rS rA rB rF rT rW rO i lc pe ni (99 : Int32) (-1 : Int32) (-1 : Int32) ((F_X12_leastFrom rD rK rM rS rA rB rF rT rW rO gN i lc pe ni 1).2) pe).2.2.2)) from by rw [F_X12_added1, if_neg c10, if_neg c12, if_pos c14]
              exact e_i (u := [(h0, .inr (12, ((((vs.set 0 (.int 0)).set 37 (.int (nI i))).set 38 (.int (rM (4 * i + ni)))).set 39 (.int (rS (4 * i + ni)))))), (b6, .inl (g.2.1 1, 11, .inl rP)), (b7, .inl (g.2.1 1, 11, .inl rL)), (b8, .inl (g.2.1 1, 11, .inl rD)), (b9, .inl (g.2.1 1, 44, .inl rK)), (b10, .inl (g.2.1 1, 44, .inl rM)), (b11, .inl (g.2.1 1, 44, .inl rS)), (b12, .inl (g.2.1 1, 132, .inl rA)), (b13, .inl (g.2.1 1, 132, .inl rB)), (b14, .inl (g.2.1 1, 132, .inl rF)), (b15, .inl (g.2.1 1, 132, .inl rT)), (b16, .inl (g.2.1 1, 132, .inl rW)), (b17, .inl (g.2.1 3, 132, .inl rO)), (b34, .inl (g.2.1 0, 425984, .inl ((L1_X12_added1 rD rK rM rS rA rB rF rT rW rO i lc pe ni (99 : Int32) (-1 : Int32) (-1 : Int32) ((F_X12_leastFrom rD rK rM rS rA rB rF rT rW rO gN i lc pe ni 1).2) pe).2.2.2)))]) X hQ hr (hW) [0, 1, 2, 3, 4, 5, 6, 7, 8, 9, 10, 11, 12, 13] rfl rfl (⟨(congrArg Prod.fst hF).symm, by rw [hF]⟩) ⟨Nat.le_of_ble_eq_true rfl, Nat.le_of_ble_eq_true rfl⟩ dX12_added_194
          · have h17 : wh = 0 := (nI_eq (a := wh) (b := 0) (by omega) (by omega)).mp c12
            refine lv_iload (pc := 174) hx hb dX12_added_174 (lv_at hl 3 rfl) ?_
            refine lv_goto (tgt := 194) (pc := 176) hx hb dX12_added_176 rfl ?_
            have hF : F_X12_added1 rD rK rM rS rA rB rF rT rW rO gN i lc pe ni wh = (((L1_X12_added1 rD rK rM rS rA rB rF rT rW rO i lc pe ni (99 : Int32) (-1 : Int32) (-1 : Int32) ((F_X12_leastFrom rD rK rM rS rA rB rF rT rW rO gN i lc pe ni 1).2) pe).2.2.1), ((L1_X12_added1 rD rK rM rS rA rB rF rT rW rO i lc pe ni (99 : Int32) (-1 : Int32) (-1 : Int32) ((F_X12_leastFrom rD rK rM rS rA rB rF rT rW rO gN i lc pe ni 1).2) pe).2.2.2)) := show F_X12_added1 rD rK rM rS rA rB rF rT rW rO gN i lc pe ni wh = (((L1_X12_added1 rD rK rM rS rA rB rF rT rW rO i lc pe ni (99 : Int32) (-1 : Int32) (-1 : Int32) ((F_X12_leastFrom rD rK rM rS rA rB rF rT rW rO gN i lc pe ni 1).2) pe).2.2.1), ((L1_X12_added1 rD rK rM rS rA rB rF rT rW rO i lc pe ni (99 : Int32) (-1 : Int32) (-1 : Int32) ((F_X12_leastFrom rD rK rM rS rA rB rF rT rW rO gN i lc pe ni 1).2) pe).2.2.2)) from by rw [F_X12_added1, if_neg c10, if_pos c12]
            exact e_i (u := [(h0, .inr (12, ((((vs.set 0 (.int 0)).set 37 (.int (nI i))).set 38 (.int (rM (4 * i + ni)))).set 39 (.int (rS (4 * i + ni)))))), (b6, .inl (g.2.1 1, 11, .inl rP)), (b7, .inl (g.2.1 1, 11, .inl rL)), (b8, .inl (g.2.1 1, 11, .inl rD)), (b9, .inl (g.2.1 1, 44, .inl rK)), (b10, .inl (g.2.1 1, 44, .inl rM)), (b11, .inl (g.2.1 1, 44, .inl rS)), (b12, .inl (g.2.1 1, 132, .inl rA)), (b13, .inl (g.2.1 1, 132, .inl rB)), (b14, .inl (g.2.1 1, 132, .inl rF)), (b15, .inl (g.2.1 1, 132, .inl rT)), (b16, .inl (g.2.1 1, 132, .inl rW)), (b17, .inl (g.2.1 3, 132, .inl rO)), (b34, .inl (g.2.1 0, 425984, .inl ((L1_X12_added1 rD rK rM rS rA rB rF rT rW rO i lc pe ni (99 : Int32) (-1 : Int32) (-1 : Int32) ((F_X12_leastFrom rD rK rM rS rA rB rF rT rW rO gN i lc pe ni 1).2) pe).2.2.2)))]) X hQ hr (hW) [0, 1, 2, 3, 4, 5, 6, 7, 8, 9, 10, 11, 12, 13] rfl rfl (⟨(congrArg Prod.fst hF).symm, by rw [hF]⟩) ⟨Nat.le_of_ble_eq_true rfl, Nat.le_of_ble_eq_true rfl⟩ dX12_added_194
        · refine lv_iconst (v := (-1)) (pc := 166) hx hb dX12_added_166 (by decide) ?_
          refine lv_goto (tgt := 194) (pc := 167) hx hb dX12_added_167 rfl ?_
          have hF : F_X12_added1 rD rK rM rS rA rB rF rT rW rO gN i lc pe ni wh = ((-1 : Int32), ((L1_X12_added1 rD rK rM rS rA rB rF rT rW rO i lc pe ni (99 : Int32) (-1 : Int32) (-1 : Int32) ((F_X12_leastFrom rD rK rM rS rA rB rF rT rW rO gN i lc pe ni 1).2) pe).2.2.2)) := show F_X12_added1 rD rK rM rS rA rB rF rT rW rO gN i lc pe ni wh = ((-1 : Int32), ((L1_X12_added1 rD rK rM rS rA rB rF rT rW rO i lc pe ni (99 : Int32) (-1 : Int32) (-1 : Int32) ((F_X12_leastFrom rD rK rM rS rA rB rF rT rW rO gN i lc pe ni 1).2) pe).2.2.2)) from by rw [F_X12_added1, if_pos c10]
          exact e_i (u := [(h0, .inr (12, ((((vs.set 0 (.int 0)).set 37 (.int (nI i))).set 38 (.int (rM (4 * i + ni)))).set 39 (.int (rS (4 * i + ni)))))), (b6, .inl (g.2.1 1, 11, .inl rP)), (b7, .inl (g.2.1 1, 11, .inl rL)), (b8, .inl (g.2.1 1, 11, .inl rD)), (b9, .inl (g.2.1 1, 44, .inl rK)), (b10, .inl (g.2.1 1, 44, .inl rM)), (b11, .inl (g.2.1 1, 44, .inl rS)), (b12, .inl (g.2.1 1, 132, .inl rA)), (b13, .inl (g.2.1 1, 132, .inl rB)), (b14, .inl (g.2.1 1, 132, .inl rF)), (b15, .inl (g.2.1 1, 132, .inl rT)), (b16, .inl (g.2.1 1, 132, .inl rW)), (b17, .inl (g.2.1 3, 132, .inl rO)), (b34, .inl (g.2.1 0, 425984, .inl ((L1_X12_added1 rD rK rM rS rA rB rF rT rW rO i lc pe ni (99 : Int32) (-1 : Int32) (-1 : Int32) ((F_X12_leastFrom rD rK rM rS rA rB rF rT rW rO gN i lc pe ni 1).2) pe).2.2.2)))]) X hQ hr (hW) [0, 1, 2, 3, 4, 5, 6, 7, 8, 9, 10, 11, 12, 13] rfl rfl (⟨(congrArg Prod.fst hF).symm, by rw [hF]⟩) ⟨Nat.le_of_ble_eq_true rfl, Nat.le_of_ble_eq_true rfl⟩ dX12_added_194
      · have h19 : ¬ (pe ≤ j1) := fun q => c8 ((nI_leI (a := pe) (b := j1) (by omega) (by omega)).mpr q)
        refine lv_iload (pc := 58) hx hb dX12_added_58 (lv_at hl 0 rfl) ?_
        refine lv_iconst (v := 1) (pc := 60) hx hb dX12_added_60 (by decide) ?_
        refine lv_iadd (pc := 61) hx hb dX12_added_61 ?_
        refine lv_topi (fun v20 ev20 => ?_)
        obtain rfl : v20 = nI (j1 + 1) := ev20.trans (nI_add j1 1)
        refine lv_istore (lv' := [(9, .int (nI (j1 + 1))), (8, .int (nI j1)), (7, .int x7_1), (6, .int x6_1), (5, .int x5_1), (4, .int (mn2 (25 : Int32) ((F_X12_leastFrom rD rK rM rS rA rB rF rT rW rO gN i lc pe ni 1).1))), (0, .ref h0), (1, .int (nI i)), (2, .int (nI ni)), (3, .int (nI wh))]) (pc := 62) hx hb dX12_added_62 hl (by decide) rfl (fun ls hl => ?_)
        have loop2 : ∀ (fu2 : Nat) (j2 : Nat) (x7_2 : Int32) (x6_2 : Int32) (x5_2 : Int32) (fb34_2 : Nat → Int32), ((pe - (j1 + 1)) < fu2 + j2) → (j2 ≤ (pe - (j1 + 1))) → ((x7_2, x6_2, x5_2, fb34_2) = L2_X12_added1 rD rK rM rS rA rB rF rT rW rO i lc pe ni j1 x7_1 x6_1 x5_1 fb34_1 j2) → ∀ (H : Heap) (locs : List Loc) (ls : Array Slot), WD g A s H locs [(h0, .inr (12, ((((vs.set 0 (.int 0)).set 37 (.int (nI i))).set 38 (.int (rM (4 * i + ni)))).set 39 (.int (rS (4 * i + ni)))))), (b6, .inl (g.2.1 1, 11, .inl rP)), (b7, .inl (g.2.1 1, 11, .inl rL)), (b8, .inl (g.2.1 1, 11, .inl rD)), (b9, .inl (g.2.1 1, 44, .inl rK)), (b10, .inl (g.2.1 1, 44, .inl rM)), (b11, .inl (g.2.1 1, 44, .inl rS)), (b12, .inl (g.2.1 1, 132, .inl rA)), (b13, .inl (g.2.1 1, 132, .inl rB)), (b14, .inl (g.2.1 1, 132, .inl rF)), (b15, .inl (g.2.1 1, 132, .inl rT)), (b16, .inl (g.2.1 1, 132, .inl rW)), (b17, .inl (g.2.1 3, 132, .inl rO)), (b34, .inl (g.2.1 0, 425984, .inl fb34_2))] → lv_has ls 11 [(9, .int (nI ((j1 + 1) + j2))), (8, .int (nI j1)), (7, .int x7_2), (6, .int x6_2), (5, .int x5_2), (4, .int (mn2 (25 : Int32) ((F_X12_leastFrom rD rK rM rS rA rB rF rT rW rO gN i lc pe ni 1).1))), (0, .ref h0), (1, .int (nI i)), (2, .int (nI ni)), (3, .int (nI wh))] → W p l e (RM 242 0 0) s m args below meth c H locs 0 0 Q (F0 m 64 ls []) := by
          intro fu2
          induction fu2 with
          | zero =>
            intro j2 x7_2 x6_2 x5_2 fb34_2 hm2 hj2 hst2
            exact absurd hm2 (by omega)
          | succ fu2 ih2 =>
            intro j2 x7_2 x6_2 x5_2 fb34_2 hm2 hj2 hst2 H locs ls hW hl
            refine lv_iload (pc := 64) hx hb dX12_added_64 (lv_at hl 0 rfl) ?_
            refine lv_aload_n (pc := 66) hx hb dX12_added_66 rfl (lv_at hl 6 rfl) ?_
            refine r_get X hW 0 ciX12 6 rfl (by decide) m_1237 rfl (sv_ne (k := 39) (by decide) (sv_ne (k := 38) (by decide) (sv_ne (k := 37) (by decide) (sv_ne (k := 0) (by decide) h6_)))) dX12_added_67 ?_
            refine lv_iload_n (pc := 70) hx hb dX12_added_70 rfl (lv_at hl 7 rfl) ?_
            refine r_iald X hW 1 rfl (vp_in_nI (by omega) (by decide)) dX12_added_71 ?_
            refine lv_topi (fun v21 ev21 => ?_)
            obtain rfl : v21 = rP i := ev21.trans (by rw [nI_clamp (by omega)])
            rw [hP]
            refine lv_icmp_ge (tgt := 154) (pc := 72) hx hb dX12_added_72 rfl (fun c22 => ?_) (fun c22 => ?_)
            · have h23 : pe ≤ ((j1 + 1) + j2) := (nI_leI (a := pe) (b := ((j1 + 1) + j2)) (by omega) (by omega)).mp c22
              have hN2 : j2 = (pe - (j1 + 1)) := by omega
              rw [hN2] at hst2
              have hs2_0 : (L2_X12_added1 rD rK rM rS rA rB rF rT rW rO i lc pe ni j1 x7_1 x6_1 x5_1 fb34_1 (pe - (j1 + 1))).1 = x7_2 := (congrArg (fun z => z.1) hst2).symm
              have hs2_1 : (L2_X12_added1 rD rK rM rS rA rB rF rT rW rO i lc pe ni j1 x7_1 x6_1 x5_1 fb34_1 (pe - (j1 + 1))).2.1 = x6_2 := (congrArg (fun z => z.2.1) hst2).symm
              have hs2_2 : (L2_X12_added1 rD rK rM rS rA rB rF rT rW rO i lc pe ni j1 x7_1 x6_1 x5_1 fb34_1 (pe - (j1 + 1))).2.2.1 = x5_2 := (congrArg (fun z => z.2.2.1) hst2).symm
              have hs2_3 : (L2_X12_added1 rD rK rM rS rA rB rF rT rW rO i lc pe ni j1 x7_1 x6_1 x5_1 fb34_1 (pe - (j1 + 1))).2.2.2 = fb34_2 := (congrArg (fun z => z.2.2.2) hst2).symm
              clear hst2
              subst hs2_0
              subst hs2_1
              subst hs2_2
              subst hs2_3
              have hW : WD g A s _ _ [(h0, .inr (12, ((((vs.set 0 (.int 0)).set 37 (.int (nI i))).set 38 (.int (rM (4 * i + ni)))).set 39 (.int (rS (4 * i + ni)))))), (b6, .inl (g.2.1 1, 11, .inl rP)), (b7, .inl (g.2.1 1, 11, .inl rL)), (b8, .inl (g.2.1 1, 11, .inl rD)), (b9, .inl (g.2.1 1, 44, .inl rK)), (b10, .inl (g.2.1 1, 44, .inl rM)), (b11, .inl (g.2.1 1, 44, .inl rS)), (b12, .inl (g.2.1 1, 132, .inl rA)), (b13, .inl (g.2.1 1, 132, .inl rB)), (b14, .inl (g.2.1 1, 132, .inl rF)), (b15, .inl (g.2.1 1, 132, .inl rT)), (b16, .inl (g.2.1 1, 132, .inl rW)), (b17, .inl (g.2.1 3, 132, .inl rO)), (b34, .inl (g.2.1 0, 425984, .inl ((L2_X12_added1 rD rK rM rS rA rB rF rT rW rO i lc pe ni j1 x7_1 x6_1 x5_1 fb34_1 (pe - (j1 + 1))).2.2.2)))] := hW
              refine lv_iinc (v := nI (j1 + 1)) (lv' := [(8, .int (nI (j1 + 1))), (9, .int (nI ((j1 + 1) + j2))), (7, .int ((L2_X12_added1 rD rK rM rS rA rB rF rT rW rO i lc pe ni j1 x7_1 x6_1 x5_1 fb34_1 (pe - (j1 + 1))).1)), (6, .int ((L2_X12_added1 rD rK rM rS rA rB rF rT rW rO i lc pe ni j1 x7_1 x6_1 x5_1 fb34_1 (pe - (j1 + 1))).2.1)), (5, .int ((L2_X12_added1 rD rK rM rS rA rB rF rT rW rO i lc pe ni j1 x7_1 x6_1 x5_1 fb34_1 (pe - (j1 + 1))).2.2.1)), (4, .int (mn2 (25 : Int32) ((F_X12_leastFrom rD rK rM rS rA rB rF rT rW rO gN i lc pe ni 1).1))), (0, .ref h0), (1, .int (nI i)), (2, .int (nI ni)), (3, .int (nI wh))]) (pc := 154) hx hb dX12_added_154 hl (k := 1) rfl (nI_add j1 1) (by decide) rfl (fun ls hl => ?_)
              refine lv_goto (tgt := 47) (pc := 157) hx hb dX12_added_157 rfl ?_
              exact ih1 (j1 + 1) ((L2_X12_added1 rD rK rM rS rA rB rF rT rW rO i lc pe ni j1 x7_1 x6_1 x5_1 fb34_1 (pe - (j1 + 1))).1) ((L2_X12_added1 rD rK rM rS rA rB rF rT rW rO i lc pe ni j1 x7_1 x6_1 x5_1 fb34_1 (pe - (j1 + 1))).2.1) ((L2_X12_added1 rD rK rM rS rA rB rF rT rW rO i lc pe ni j1 x7_1 x6_1 x5_1 fb34_1 (pe - (j1 + 1))).2.2.1) ((L2_X12_added1 rD rK rM rS rA rB rF rT rW rO i lc pe ni j1 x7_1 x6_1 x5_1 fb34_1 (pe - (j1 + 1))).2.2.2) (by omega) (by omega) (by rw [L1_X12_added1, ← hst1]; exact (show L1_X12_added1s rD rK rM rS rA rB rF rT rW rO i lc pe ni j1 x7_1 x6_1 x5_1 fb34_1 = (((L2_X12_added1 rD rK rM rS rA rB rF rT rW rO i lc pe ni j1 x7_1 x6_1 x5_1 fb34_1 (pe - (j1 + 1))).1), ((L2_X12_added1 rD rK rM rS rA rB rF rT rW rO i lc pe ni j1 x7_1 x6_1 x5_1 fb34_1 (pe - (j1 + 1))).2.1), ((L2_X12_added1 rD rK rM rS rA rB rF rT rW rO i lc pe ni j1 x7_1 x6_1 x5_1 fb34_1 (pe - (j1 + 1))).2.2.1), ((L2_X12_added1 rD rK rM rS rA rB rF rT rW rO i lc pe ni j1 x7_1 x6_1 x5_1 fb34_1 (pe - (j1 + 1))).2.2.2)) from rfl).symm) _ _ _ hW (lv_sub hl [0, 2, 3, 4, 5, 6, 7, 8, 9] rfl)
            · have h24 : ¬ (pe ≤ ((j1 + 1) + j2)) := fun q => c22 ((nI_leI (a := pe) (b := ((j1 + 1) + j2)) (by omega) (by omega)).mpr q)
              refine lv_aload_n (pc := 75) hx hb dX12_added_75 rfl (lv_at hl 6 rfl) ?_
              refine lv_iload_n (pc := 76) hx hb dX12_added_76 rfl (lv_at hl 7 rfl) ?_
              refine lv_iload (pc := 77) hx hb dX12_added_77 (lv_at hl 1 rfl) ?_
              refine lv_iload (pc := 79) hx hb dX12_added_79 (lv_at hl 0 rfl) ?_
              refine c_Vi (pc := 81) (As := [.int (nI i), .int (nI j1), .int (nI ((j1 + 1) + j2))]) (rest := []) (wr := [(b6, .inl (g.2.1 1, 11, .inl rP)), (b8, .inl (g.2.1 1, 11, .inl rD)), (b9, .inl (g.2.1 1, 44, .inl rK)), (b10, .inl (g.2.1 1, 44, .inl rM)), (b11, .inl (g.2.1 1, 44, .inl rS)), (b14, .inl (g.2.1 1, 132, .inl rF)), (b15, .inl (g.2.1 1, 132, .inl rT)), (b16, .inl (g.2.1 1, 132, .inl rW)), (b17, .inl (g.2.1 3, 132, .inl rO)), (b34, .inl (g.2.1 0, 425984, .inl fb34_2))]) X hW 0 ciX12 rfl (K_X12_hasLine l g h0 ((((vs.set 0 (.int 0)).set 37 (.int (nI i))).set 38 (.int (rM (4 * i + ni)))).set 39 (.int (rS (4 * i + ni)))) b7 rL b12 rA b13 rB lc i j1 ((j1 + 1) + j2) (sv_len (sv_len (sv_len (sv_len hlen)))) (sv_ne (k := 39) (by decide) (sv_ne (k := 38) (by decide) (sv_ne (k := 37) (by decide) (sv_ne (k := 0) (by decide) h7_)))) (sv_ne (k := 39) (by decide) (sv_ne (k := 38) (by decide) (sv_ne (k := 37) (by decide) (sv_ne (k := 0) (by decide) h12_)))) (sv_ne (k := 39) (by decide) (sv_ne (k := 38) (by decide) (sv_ne (k := 37) (by decide) (sv_ne (k := 0) (by decide) h13_)))) (by omega) hlc hL) vX12_331 [0, 2, 7, 8] [1, 3, 4, 5, 6, 9, 10, 11, 12, 13] rfl rfl rfl rfl rfl rfl hl.1 rfl (Nat.le_of_ble_eq_true rfl) ⟨Nat.le_of_ble_eq_true rfl, Nat.le_of_ble_eq_true rfl⟩ ⟨Nat.le_of_ble_eq_true rfl, Nat.le_of_ble_eq_true rfl⟩ dX12_added_81 (fun r25 u9 H locs hq hW => ?_)
              obtain ⟨rfl, rfl⟩ := hq
              have hW : WD g A s _ _ [(b6, .inl (g.2.1 1, 11, .inl rP)), (b8, .inl (g.2.1 1, 11, .inl rD)), (b9, .inl (g.2.1 1, 44, .inl rK)), (b10, .inl (g.2.1 1, 44, .inl rM)), (b11, .inl (g.2.1 1, 44, .inl rS)), (b14, .inl (g.2.1 1, 132, .inl rF)), (b15, .inl (g.2.1 1, 132, .inl rT)), (b16, .inl (g.2.1 1, 132, .inl rW)), (b17, .inl (g.2.1 3, 132, .inl rO)), (b34, .inl (g.2.1 0, 425984, .inl fb34_2)), (h0, .inr (12, ((((vs.set 0 (.int 0)).set 37 (.int (nI i))).set 38 (.int (rM (4 * i + ni)))).set 39 (.int (rS (4 * i + ni)))))), (b7, .inl (g.2.1 1, 11, .inl rL)), (b12, .inl (g.2.1 1, 132, .inl rA)), (b13, .inl (g.2.1 1, 132, .inl rB))] := hW
              refine lv_if_eq (tgt := 90) (pc := 84) hx hb dX12_added_84 rfl (fun c26 => ?_) (fun c26 => ?_)
              · refine lv_aload_n (pc := 90) hx hb dX12_added_90 rfl (lv_at hl 6 rfl) ?_
                refine lv_iload (pc := 91) hx hb dX12_added_91 (lv_at hl 1 rfl) ?_
                refine r_put (ws' := [(b6, .inl (g.2.1 1, 11, .inl rP)), (b8, .inl (g.2.1 1, 11, .inl rD)), (b9, .inl (g.2.1 1, 44, .inl rK)), (b10, .inl (g.2.1 1, 44, .inl rM)), (b11, .inl (g.2.1 1, 44, .inl rS)), (b14, .inl (g.2.1 1, 132, .inl rF)), (b15, .inl (g.2.1 1, 132, .inl rT)), (b16, .inl (g.2.1 1, 132, .inl rW)), (b17, .inl (g.2.1 3, 132, .inl rO)), (b34, .inl (g.2.1 0, 425984, .inl fb34_2)), (h0, .inr (12, (((((vs.set 0 (.int 0)).set 37 (.int (nI i))).set 38 (.int (rM (4 * i + ni)))).set 39 (.int (rS (4 * i + ni)))).set 19 (.int (nI j1))))), (b7, .inl (g.2.1 1, 11, .inl rL)), (b12, .inl (g.2.1 1, 132, .inl rA)), (b13, .inl (g.2.1 1, 132, .inl rB))]) X hW 10 ciX12 19 rfl (by decide) m_1250 rfl rfl rfl rfl (sv_lt (by decide) (sv_len (sv_len (sv_len (sv_len hlen))))) rfl dX12_added_93 (fun H locs hW => ?_)
                refine lv_aload_n (pc := 96) hx hb dX12_added_96 rfl (lv_at hl 6 rfl) ?_
                refine lv_iload (pc := 97) hx hb dX12_added_97 (lv_at hl 0 rfl) ?_
                refine r_put (ws' := [(b6, .inl (g.2.1 1, 11, .inl rP)), (b8, .inl (g.2.1 1, 11, .inl rD)), (b9, .inl (g.2.1 1, 44, .inl rK)), (b10, .inl (g.2.1 1, 44, .inl rM)), (b11, .inl (g.2.1 1, 44, .inl rS)), (b14, .inl (g.2.1 1, 132, .inl rF)), (b15, .inl (g.2.1 1, 132, .inl rT)), (b16, .inl (g.2.1 1, 132, .inl rW)), (b17, .inl (g.2.1 3, 132, .inl rO)), (b34, .inl (g.2.1 0, 425984, .inl fb34_2)), (h0, .inr (12, ((((((vs.set 0 (.int 0)).set 37 (.int (nI i))).set 38 (.int (rM (4 * i + ni)))).set 39 (.int (rS (4 * i + ni)))).set 19 (.int (nI j1))).set 20 (.int (nI ((j1 + 1) + j2)))))), (b7, .inl (g.2.1 1, 11, .inl rL)), (b12, .inl (g.2.1 1, 132, .inl rA)), (b13, .inl (g.2.1 1, 132, .inl rB))]) X hW 10 ciX12 20 rfl (by decide) m_1251 rfl rfl rfl rfl (sv_lt (by decide) (sv_len (sv_len (sv_len (sv_len (sv_len hlen)))))) rfl dX12_added_99 (fun H locs hW => ?_)
                refine lv_bipush (v := 25) (pc := 102) hx hb dX12_added_102 (by decide) ?_
                refine lv_aload_n (pc := 104) hx hb dX12_added_104 rfl (lv_at hl 6 rfl) ?_
                refine lv_iload_n (pc := 105) hx hb dX12_added_105 rfl (lv_at hl 7 rfl) ?_
                refine lv_iload_n (pc := 106) hx hb dX12_added_106 rfl (lv_at hl 8 rfl) ?_
                refine lv_iconst (v := 1) (pc := 107) hx hb dX12_added_107 (by decide) ?_
                refine c_Vi (pc := 108) (As := [.int (nI i), .int (nI ni), .int 1]) (rest := [.int 25]) (wr := []) X hW 10 ciX12 rfl (K_X12_leastFromA l g h0 ((((((vs.set 0 (.int 0)).set 37 (.int (nI i))).set 38 (.int (rM (4 * i + ni)))).set 39 (.int (rS (4 * i + ni)))).set 19 (.int (nI j1))).set 20 (.int (nI ((j1 + 1) + j2)))) b6 rP b7 rL b8 rD b9 rK b10 rM b11 rS b12 rA b13 rB b14 rF b15 rT b16 rW b17 rO b34 fb34_2 i lc pe ni 1 (nI j1) (nI ((j1 + 1) + j2)) (sv_len (sv_len (sv_len (sv_len (sv_len (sv_len hlen)))))) (sv_ne (k := 20) (by decide) (sv_ne (k := 19) (by decide) (sv_ne (k := 39) (by decide) (sv_ne (k := 38) (by decide) (sv_ne (k := 37) (by decide) (sv_ne (k := 0) (by decide) h6_)))))) (sv_ne (k := 20) (by decide) (sv_ne (k := 19) (by decide) (sv_ne (k := 39) (by decide) (sv_ne (k := 38) (by decide) (sv_ne (k := 37) (by decide) (sv_ne (k := 0) (by decide) h7_)))))) (sv_ne (k := 20) (by decide) (sv_ne (k := 19) (by decide) (sv_ne (k := 39) (by decide) (sv_ne (k := 38) (by decide) (sv_ne (k := 37) (by decide) (sv_ne (k := 0) (by decide) h8_)))))) (sv_ne (k := 20) (by decide) (sv_ne (k := 19) (by decide) (sv_ne (k := 39) (by decide) (sv_ne (k := 38) (by decide) (sv_ne (k := 37) (by decide) (sv_ne (k := 0) (by decide) h9_)))))) (sv_ne (k := 20) (by decide) (sv_ne (k := 19) (by decide) (sv_ne (k := 39) (by decide) (sv_ne (k := 38) (by decide) (sv_ne (k := 37) (by decide) (sv_ne (k := 0) (by decide) h10_)))))) (sv_ne (k := 20) (by decide) (sv_ne (k := 19) (by decide) (sv_ne (k := 39) (by decide) (sv_ne (k := 38) (by decide) (sv_ne (k := 37) (by decide) (sv_ne (k := 0) (by decide) h11_)))))) (sv_ne (k := 20) (by decide) (sv_ne (k := 19) (by decide) (sv_ne (k := 39) (by decide) (sv_ne (k := 38) (by decide) (sv_ne (k := 37) (by decide) (sv_ne (k := 0) (by decide) h12_)))))) (sv_ne (k := 20) (by decide) (sv_ne (k := 19) (by decide) (sv_ne (k := 39) (by decide) (sv_ne (k := 38) (by decide) (sv_ne (k := 37) (by decide) (sv_ne (k := 0) (by decide) h13_)))))) (sv_ne (k := 20) (by decide) (sv_ne (k := 19) (by decide) (sv_ne (k := 39) (by decide) (sv_ne (k := 38) (by decide) (sv_ne (k := 37) (by decide) (sv_ne (k := 0) (by decide) h14_)))))) (sv_ne (k := 20) (by decide) (sv_ne (k := 19) (by decide) (sv_ne (k := 39) (by decide) (sv_ne (k := 38) (by decide) (sv_ne (k := 37) (by decide) (sv_ne (k := 0) (by decide) h15_)))))) (sv_ne (k := 20) (by decide) (sv_ne (k := 19) (by decide) (sv_ne (k := 39) (by decide) (sv_ne (k := 38) (by decide) (sv_ne (k := 37) (by decide) (sv_ne (k := 0) (by decide) h16_)))))) (sv_ne (k := 20) (by decide) (sv_ne (k := 19) (by decide) (sv_ne (k := 39) (by decide) (sv_ne (k := 38) (by decide) (sv_ne (k := 37) (by decide) (sv_ne (k := 0) (by decide) h17_)))))) (sv_ne (k := 20) (by decide) (sv_ne (k := 19) (by decide) (sv_ne (k := 39) (by decide) (sv_ne (k := 38) (by decide) (sv_ne (k := 37) (by decide) (sv_ne (k := 0) (by decide) h34_)))))) (by omega) hlc hL hpe hP (sv_ne (k := 20) (by decide) (sv_eq (k := 19) (n := 64) (by decide) (sv_len (sv_len (sv_len (sv_len hlen)))))) (sv_eq (k := 20) (n := 64) (by decide) (sv_len (sv_len (sv_len (sv_len (sv_len hlen)))))) hni (by omega) (by omega) hkn) vX12_318 [10, 0, 11, 1, 2, 3, 4, 12, 13, 5, 6, 7, 8, 9] [] rfl rfl rfl rfl rfl rfl hl.1 rfl (Nat.le_of_ble_eq_true rfl) ⟨Nat.le_of_ble_eq_true rfl, Nat.le_of_ble_eq_true rfl⟩ ⟨Nat.le_of_ble_eq_true rfl, Nat.le_of_ble_eq_true rfl⟩ dX12_added_108 (fun r28 u9 H locs hq hW => ?_)
                obtain ⟨rfl, rfl⟩ := hq
                have hW : WD g A s _ _ [(h0, .inr (12, (((((((((vs.set 0 (.int 0)).set 37 (.int (nI i))).set 38 (.int (rM (4 * i + ni)))).set 39 (.int (rS (4 * i + ni)))).set 19 (.int (nI j1))).set 20 (.int (nI ((j1 + 1) + j2)))).set 37 (.int (nI i))).set 38 (.int (rM (4 * i + ni)))).set 39 (.int (rS (4 * i + ni)))))), (b6, .inl (g.2.1 1, 11, .inl rP)), (b7, .inl (g.2.1 1, 11, .inl rL)), (b8, .inl (g.2.1 1, 11, .inl rD)), (b9, .inl (g.2.1 1, 44, .inl rK)), (b10, .inl (g.2.1 1, 44, .inl rM)), (b11, .inl (g.2.1 1, 44, .inl rS)), (b12, .inl (g.2.1 1, 132, .inl rA)), (b13, .inl (g.2.1 1, 132, .inl rB)), (b14, .inl (g.2.1 1, 132, .inl rF)), (b15, .inl (g.2.1 1, 132, .inl rT)), (b16, .inl (g.2.1 1, 132, .inl rW)), (b17, .inl (g.2.1 3, 132, .inl rO)), (b34, .inl (g.2.1 0, 425984, .inl ((F_X12_leastFromA rD rK rM rS rA rB rF rT rW rO fb34_2 i lc pe ni 1 (nI j1) (nI ((j1 + 1) + j2))).2)))] := hW
                refine va_mmin (pc := 111) hx hb (X.2.2.1.trans hl.1.symm) X.2.2.2.1 (X.2.2.2.2.1 _ mm_X12_111) (X.2.2.2.2.1 _ mms_min) (X.2.2.2.2.1 _ m_19) (X.2.2.2.2.1 _ mmc_min) (Nat.le_of_ble_eq_true rfl) (Nat.le_of_ble_eq_true rfl) (Nat.le_of_ble_eq_true rfl) (Nat.le_of_ble_eq_true rfl) dX12_added_111 ?_
                refine lv_topi (fun v29 ev29 => ?_)
                obtain rfl : v29 = mn2 (25 : Int32) ((F_X12_leastFromA rD rK rM rS rA rB rF rT rW rO fb34_2 i lc pe ni 1 (nI j1) (nI ((j1 + 1) + j2))).1) := ev29.trans (rfl)
                refine lv_istore (lv' := [(10, .int (mn2 (25 : Int32) ((F_X12_leastFromA rD rK rM rS rA rB rF rT rW rO fb34_2 i lc pe ni 1 (nI j1) (nI ((j1 + 1) + j2))).1))), (9, .int (nI ((j1 + 1) + j2))), (8, .int (nI j1)), (7, .int x7_2), (6, .int x6_2), (5, .int x5_2), (4, .int (mn2 (25 : Int32) ((F_X12_leastFrom rD rK rM rS rA rB rF rT rW rO gN i lc pe ni 1).1))), (0, .ref h0), (1, .int (nI i)), (2, .int (nI ni)), (3, .int (nI wh))]) (pc := 114) hx hb dX12_added_114 hl (by decide) rfl (fun ls hl => ?_)
                refine lv_aload_n (pc := 116) hx hb dX12_added_116 rfl (lv_at hl 7 rfl) ?_
                refine lv_iconst (v := (-1)) (pc := 117) hx hb dX12_added_117 (by decide) ?_
                refine r_put (ws' := [(h0, .inr (12, ((((((((((vs.set 0 (.int 0)).set 37 (.int (nI i))).set 38 (.int (rM (4 * i + ni)))).set 39 (.int (rS (4 * i + ni)))).set 19 (.int (nI j1))).set 20 (.int (nI ((j1 + 1) + j2)))).set 37 (.int (nI i))).set 38 (.int (rM (4 * i + ni)))).set 39 (.int (rS (4 * i + ni)))).set 19 (.int (-1))))), (b6, .inl (g.2.1 1, 11, .inl rP)), (b7, .inl (g.2.1 1, 11, .inl rL)), (b8, .inl (g.2.1 1, 11, .inl rD)), (b9, .inl (g.2.1 1, 44, .inl rK)), (b10, .inl (g.2.1 1, 44, .inl rM)), (b11, .inl (g.2.1 1, 44, .inl rS)), (b12, .inl (g.2.1 1, 132, .inl rA)), (b13, .inl (g.2.1 1, 132, .inl rB)), (b14, .inl (g.2.1 1, 132, .inl rF)), (b15, .inl (g.2.1 1, 132, .inl rT)), (b16, .inl (g.2.1 1, 132, .inl rW)), (b17, .inl (g.2.1 3, 132, .inl rO)), (b34, .inl (g.2.1 0, 425984, .inl ((F_X12_leastFromA rD rK rM rS rA rB rF rT rW rO fb34_2 i lc pe ni 1 (nI j1) (nI ((j1 + 1) + j2))).2)))]) X hW 0 ciX12 19 rfl (by decide) m_1250 rfl rfl rfl rfl (sv_lt (by decide) (sv_len (sv_len (sv_len (sv_len (sv_len (sv_len (sv_len (sv_len (sv_len hlen)))))))))) rfl dX12_added_118 (fun H locs hW => ?_)
                refine lv_aload_n (pc := 121) hx hb dX12_added_121 rfl (lv_at hl 7 rfl) ?_
                refine lv_iconst (v := (-1)) (pc := 122) hx hb dX12_added_122 (by decide) ?_
                refine r_put (ws' := [(h0, .inr (12, (((((((((((vs.set 0 (.int 0)).set 37 (.int (nI i))).set 38 (.int (rM (4 * i + ni)))).set 39 (.int (rS (4 * i + ni)))).set 19 (.int (nI j1))).set 20 (.int (nI ((j1 + 1) + j2)))).set 37 (.int (nI i))).set 38 (.int (rM (4 * i + ni)))).set 39 (.int (rS (4 * i + ni)))).set 19 (.int (-1))).set 20 (.int (-1))))), (b6, .inl (g.2.1 1, 11, .inl rP)), (b7, .inl (g.2.1 1, 11, .inl rL)), (b8, .inl (g.2.1 1, 11, .inl rD)), (b9, .inl (g.2.1 1, 44, .inl rK)), (b10, .inl (g.2.1 1, 44, .inl rM)), (b11, .inl (g.2.1 1, 44, .inl rS)), (b12, .inl (g.2.1 1, 132, .inl rA)), (b13, .inl (g.2.1 1, 132, .inl rB)), (b14, .inl (g.2.1 1, 132, .inl rF)), (b15, .inl (g.2.1 1, 132, .inl rT)), (b16, .inl (g.2.1 1, 132, .inl rW)), (b17, .inl (g.2.1 3, 132, .inl rO)), (b34, .inl (g.2.1 0, 425984, .inl ((F_X12_leastFromA rD rK rM rS rA rB rF rT rW rO fb34_2 i lc pe ni 1 (nI j1) (nI ((j1 + 1) + j2))).2)))]) X hW 0 ciX12 20 rfl (by decide) m_1251 rfl rfl rfl rfl (sv_lt (by decide) (sv_len (sv_len (sv_len (sv_len (sv_len (sv_len (sv_len (sv_len (sv_len (sv_len hlen))))))))))) rfl dX12_added_123 (fun H locs hW => ?_)
                rw [set_back (vs := ((((vs.set 0 (.int 0)).set 37 (.int (nI i))).set 38 (.int (rM (4 * i + ni)))).set 39 (.int (rS (4 * i + ni))))) (sv_len (sv_len (sv_len (sv_len hlen)))) (sv_ne (k := 39) (by decide) (sv_ne (k := 38) (by decide) (sv_ne (k := 37) (by decide) (sv_ne (k := 0) (by decide) h19_)))) (sv_ne (k := 39) (by decide) (sv_ne (k := 38) (by decide) (sv_ne (k := 37) (by decide) (sv_ne (k := 0) (by decide) h20_)))) (sv_ne (k := 39) (by decide) (sv_ne (k := 38) (by decide) (sv_eq (k := 37) (n := 64) (by decide) (sv_len hlen)))) (sv_ne (k := 39) (by decide) (sv_eq (k := 38) (n := 64) (by decide) (sv_len (sv_len hlen)))) (sv_eq (k := 39) (n := 64) (by decide) (sv_len (sv_len (sv_len hlen))))] at hW
                refine lv_iload (pc := 126) hx hb dX12_added_126 (lv_at hl 0 rfl) ?_
                refine lv_iload (pc := 128) hx hb dX12_added_128 (lv_at hl 3 rfl) ?_
                refine lv_icmp_lt (tgt := 136) (pc := 130) hx hb dX12_added_130 rfl (fun c30 => ?_) (fun c30 => ?_)
                · refine lv_iload (pc := 136) hx hb dX12_added_136 (lv_at hl 0 rfl) ?_
                  refine lv_istore (lv' := [(7, .int (mn2 (25 : Int32) ((F_X12_leastFromA rD rK rM rS rA rB rF rT rW rO fb34_2 i lc pe ni 1 (nI j1) (nI ((j1 + 1) + j2))).1))), (10, .int (mn2 (25 : Int32) ((F_X12_leastFromA rD rK rM rS rA rB rF rT rW rO fb34_2 i lc pe ni 1 (nI j1) (nI ((j1 + 1) + j2))).1))), (9, .int (nI ((j1 + 1) + j2))), (8, .int (nI j1)), (6, .int x6_2), (5, .int x5_2), (4, .int (mn2 (25 : Int32) ((F_X12_leastFrom rD rK rM rS rA rB rF rT rW rO gN i lc pe ni 1).1))), (0, .ref h0), (1, .int (nI i)), (2, .int (nI ni)), (3, .int (nI wh))]) (pc := 138) hx hb dX12_added_138 hl (by decide) rfl (fun ls hl => ?_)
                  refine lv_iload (pc := 140) hx hb dX12_added_140 (lv_at hl 3 rfl) ?_
                  refine lv_istore (lv' := [(5, .int (nI j1)), (7, .int (mn2 (25 : Int32) ((F_X12_leastFromA rD rK rM rS rA rB rF rT rW rO fb34_2 i lc pe ni 1 (nI j1) (nI ((j1 + 1) + j2))).1))), (10, .int (mn2 (25 : Int32) ((F_X12_leastFromA rD rK rM rS rA rB rF rT rW rO fb34_2 i lc pe ni 1 (nI j1) (nI ((j1 + 1) + j2))).1))), (9, .int (nI ((j1 + 1) + j2))), (8, .int (nI j1)), (6, .int x6_2), (4, .int (mn2 (25 : Int32) ((F_X12_leastFrom rD rK rM rS rA rB rF rT rW rO gN i lc pe ni 1).1))), (0, .ref h0), (1, .int (nI i)), (2, .int (nI ni)), (3, .int (nI wh))]) (pc := 142) hx hb dX12_added_142 hl (by decide) rfl (fun ls hl => ?_)
                  refine lv_iload (pc := 144) hx hb dX12_added_144 (lv_at hl 3 rfl) ?_
                  refine lv_istore (lv' := [(6, .int (nI ((j1 + 1) + j2))), (5, .int (nI j1)), (7, .int (mn2 (25 : Int32) ((F_X12_leastFromA rD rK rM rS rA rB rF rT rW rO fb34_2 i lc pe ni 1 (nI j1) (nI ((j1 + 1) + j2))).1))), (10, .int (mn2 (25 : Int32) ((F_X12_leastFromA rD rK rM rS rA rB rF rT rW rO fb34_2 i lc pe ni 1 (nI j1) (nI ((j1 + 1) + j2))).1))), (9, .int (nI ((j1 + 1) + j2))), (8, .int (nI j1)), (4, .int (mn2 (25 : Int32) ((F_X12_leastFrom rD rK rM rS rA rB rF rT rW rO gN i lc pe ni 1).1))), (0, .ref h0), (1, .int (nI i)), (2, .int (nI ni)), (3, .int (nI wh))]) (pc := 146) hx hb dX12_added_146 hl (by decide) rfl (fun ls hl => ?_)
                  refine lv_iinc (v := nI ((j1 + 1) + j2 + 1)) (lv' := [(9, .int (nI ((j1 + 1) + j2 + 1))), (6, .int (nI ((j1 + 1) + j2))), (5, .int (nI j1)), (7, .int (mn2 (25 : Int32) ((F_X12_leastFromA rD rK rM rS rA rB rF rT rW rO fb34_2 i lc pe ni 1 (nI j1) (nI ((j1 + 1) + j2))).1))), (10, .int (mn2 (25 : Int32) ((F_X12_leastFromA rD rK rM rS rA rB rF rT rW rO fb34_2 i lc pe ni 1 (nI j1) (nI ((j1 + 1) + j2))).1))), (8, .int (nI j1)), (4, .int (mn2 (25 : Int32) ((F_X12_leastFrom rD rK rM rS rA rB rF rT rW rO gN i lc pe ni 1).1))), (0, .ref h0), (1, .int (nI i)), (2, .int (nI ni)), (3, .int (nI wh))]) (pc := 148) hx hb dX12_added_148 hl (k := 4) rfl (nI_add ((j1 + 1) + j2) 1) (by decide) rfl (fun ls hl => ?_)
                  refine lv_goto (tgt := 64) (pc := 151) hx hb dX12_added_151 rfl ?_
                  exact ih2 (j2 + 1) (mn2 (25 : Int32) ((F_X12_leastFromA rD rK rM rS rA rB rF rT rW rO fb34_2 i lc pe ni 1 (nI j1) (nI ((j1 + 1) + j2))).1)) (nI ((j1 + 1) + j2)) (nI j1) ((F_X12_leastFromA rD rK rM rS rA rB rF rT rW rO fb34_2 i lc pe ni 1 (nI j1) (nI ((j1 + 1) + j2))).2) (by omega) (by omega) (by rw [L2_X12_added1, ← hst2]; exact (show L2_X12_added1s rD rK rM rS rA rB rF rT rW rO i lc pe ni j1 j2 x7_2 x6_2 x5_2 fb34_2 = (mn2 (25 : Int32) ((F_X12_leastFromA rD rK rM rS rA rB rF rT rW rO fb34_2 i lc pe ni 1 (nI j1) (nI ((j1 + 1) + j2))).1), nI ((j1 + 1) + j2), nI j1, ((F_X12_leastFromA rD rK rM rS rA rB rF rT rW rO fb34_2 i lc pe ni 1 (nI j1) (nI ((j1 + 1) + j2))).2)) from by rw [L2_X12_added1s, if_pos c26, if_pos c30]).symm) _ _ _ hW (lv_sub hl [0, 5, 3, 1, 2, 6, 7, 8, 9, 10] rfl)
                · refine lv_goto (tgt := 148) (pc := 133) hx hb dX12_added_133 rfl ?_
                  refine lv_iinc (v := nI ((j1 + 1) + j2 + 1)) (lv' := [(9, .int (nI ((j1 + 1) + j2 + 1))), (10, .int (mn2 (25 : Int32) ((F_X12_leastFromA rD rK rM rS rA rB rF rT rW rO fb34_2 i lc pe ni 1 (nI j1) (nI ((j1 + 1) + j2))).1))), (8, .int (nI j1)), (7, .int x7_2), (6, .int x6_2), (5, .int x5_2), (4, .int (mn2 (25 : Int32) ((F_X12_leastFrom rD rK rM rS rA rB rF rT rW rO gN i lc pe ni 1).1))), (0, .ref h0), (1, .int (nI i)), (2, .int (nI ni)), (3, .int (nI wh))]) (pc := 148) hx hb dX12_added_148 hl (k := 1) rfl (nI_add ((j1 + 1) + j2) 1) (by decide) rfl (fun ls hl => ?_)
                  refine lv_goto (tgt := 64) (pc := 151) hx hb dX12_added_151 rfl ?_
                  exact ih2 (j2 + 1) x7_2 x6_2 x5_2 ((F_X12_leastFromA rD rK rM rS rA rB rF rT rW rO fb34_2 i lc pe ni 1 (nI j1) (nI ((j1 + 1) + j2))).2) (by omega) (by omega) (by rw [L2_X12_added1, ← hst2]; exact (show L2_X12_added1s rD rK rM rS rA rB rF rT rW rO i lc pe ni j1 j2 x7_2 x6_2 x5_2 fb34_2 = (x7_2, x6_2, x5_2, ((F_X12_leastFromA rD rK rM rS rA rB rF rT rW rO fb34_2 i lc pe ni 1 (nI j1) (nI ((j1 + 1) + j2))).2)) from by rw [L2_X12_added1s, if_pos c26, if_neg c30]).symm) _ _ _ hW (lv_sub hl [0, 2, 3, 4, 5, 6, 7, 8, 9, 10] rfl)
              · refine lv_goto (tgt := 148) (pc := 87) hx hb dX12_added_87 rfl ?_
                refine lv_iinc (v := nI ((j1 + 1) + j2 + 1)) (lv' := [(9, .int (nI ((j1 + 1) + j2 + 1))), (8, .int (nI j1)), (7, .int x7_2), (6, .int x6_2), (5, .int x5_2), (4, .int (mn2 (25 : Int32) ((F_X12_leastFrom rD rK rM rS rA rB rF rT rW rO gN i lc pe ni 1).1))), (0, .ref h0), (1, .int (nI i)), (2, .int (nI ni)), (3, .int (nI wh))]) (pc := 148) hx hb dX12_added_148 hl (k := 0) rfl (nI_add ((j1 + 1) + j2) 1) (by decide) rfl (fun ls hl => ?_)
                refine lv_goto (tgt := 64) (pc := 151) hx hb dX12_added_151 rfl ?_
                have hW : WD g A s _ _ [(h0, .inr (12, ((((vs.set 0 (.int 0)).set 37 (.int (nI i))).set 38 (.int (rM (4 * i + ni)))).set 39 (.int (rS (4 * i + ni)))))), (b6, .inl (g.2.1 1, 11, .inl rP)), (b7, .inl (g.2.1 1, 11, .inl rL)), (b8, .inl (g.2.1 1, 11, .inl rD)), (b9, .inl (g.2.1 1, 44, .inl rK)), (b10, .inl (g.2.1 1, 44, .inl rM)), (b11, .inl (g.2.1 1, 44, .inl rS)), (b12, .inl (g.2.1 1, 132, .inl rA)), (b13, .inl (g.2.1 1, 132, .inl rB)), (b14, .inl (g.2.1 1, 132, .inl rF)), (b15, .inl (g.2.1 1, 132, .inl rT)), (b16, .inl (g.2.1 1, 132, .inl rW)), (b17, .inl (g.2.1 3, 132, .inl rO)), (b34, .inl (g.2.1 0, 425984, .inl fb34_2))] := hW.pick [10, 0, 11, 1, 2, 3, 4, 12, 13, 5, 6, 7, 8, 9] rfl rfl
                exact ih2 (j2 + 1) x7_2 x6_2 x5_2 fb34_2 (by omega) (by omega) (by rw [L2_X12_added1, ← hst2]; exact (show L2_X12_added1s rD rK rM rS rA rB rF rT rW rO i lc pe ni j1 j2 x7_2 x6_2 x5_2 fb34_2 = (x7_2, x6_2, x5_2, fb34_2) from by rw [L2_X12_added1s, if_neg c26]).symm) _ _ _ hW (lv_sub hl [0, 1, 2, 3, 4, 5, 6, 7, 8, 9] rfl)
        exact loop2 ((pe - (j1 + 1)) + 1) 0 x7_1 x6_1 x5_1 fb34_1 (by omega) (by omega) rfl _ _ _ hW (lv_sub hl [0, 1, 2, 3, 4, 5, 6, 7, 8, 9] rfl)
  exact loop1 (pe + 1) 0 (99 : Int32) (-1 : Int32) (-1 : Int32) ((F_X12_leastFrom rD rK rM rS rA rB rF rT rW rO gN i lc pe ni 1).2) (by omega) (by omega) rfl _ _ _ hW (lv_sub hl [0, 1, 2, 3, 4, 5, 6, 7, 8] rfl)

def F_X12_added0 (nv : Nat) (x : Int32) (y : Int32) (z : Int32) : Int32 := if F_X12_isAsked nv x y = 0 then ((-1 : Int32)) else (if F_X12_isIn z (0 : Int32) (2 : Int32) = 0 then ((-1 : Int32)) else ((-1 : Int32)))
set_option maxHeartbeats 4000000 in
set_option maxRecDepth 100000 in
theorem K_X12_added0 (l : Launch) (g : GG) (h0 : Nat) (vs : List Value) (nv : Nat) (x : Int32) (y : Int32) (z : Int32) (hlen : vs.length = 64) (h18_ : vs[18]? = some (.int (nI nv))) (hn : nv ≤ 10) (hbad : F_X12_isAsked nv x y = 0 ∨ F_X12_isIn z 0 2 = 0) : MetI l g yX12_added cX12_added 11 (some .int) 3 0 0 [.ref h0, .int x, .int y, .int z] [(h0, .inr (12, vs))] (fun r u => r = (F_X12_added0 nv x y z) ∧ u = [(h0, .inr (12, (vs.set 0 (.int 0))))]) := by
  refine MetI.of (own := RX12) rfl (by decide) (Nat.le_of_ble_eq_true rfl) ?_
  intro p e s m below meth c A ls args Q hQ X hr hin hW hl
  have hx := X.1
  have hb := X.2.1
  have hl : lv_has ls 11 [(0, .ref h0), (1, .int x), (2, .int y), (3, .int z)] := hl
  refine lv_aload_n (pc := 0) hx hb dX12_added_0 rfl (lv_at hl 0 rfl) ?_
  refine lv_iload_n (pc := 1) hx hb dX12_added_1 rfl (lv_at hl 1 rfl) ?_
  refine lv_iload_n (pc := 2) hx hb dX12_added_2 rfl (lv_at hl 2 rfl) ?_
  refine c_Vi (pc := 3) (As := [.int x, .int y]) (rest := []) (wr := []) X hW 0 ciX12 rfl (K_X12_isAsked l g h0 vs nv x y hlen h18_ (by omega)) vX12_315 [0] [] rfl rfl rfl rfl rfl rfl hl.1 rfl (Nat.le_of_ble_eq_true rfl) ⟨Nat.le_of_ble_eq_true rfl, Nat.le_of_ble_eq_true rfl⟩ ⟨Nat.le_of_ble_eq_true rfl, Nat.le_of_ble_eq_true rfl⟩ dX12_added_3 (fun r1 u9 H locs hq hW => ?_)
  obtain ⟨rfl, rfl⟩ := hq
  have hW : WD g A s _ _ [(h0, .inr (12, (vs.set 0 (.int 0))))] := hW
  refine lv_if_eq (tgt := 18) (pc := 6) hx hb dX12_added_6 rfl (fun c2 => ?_) (fun c2 => ?_)
  · refine lv_iconst (v := (-1)) (pc := 18) hx hb dX12_added_18 (by decide) ?_
    have hF : F_X12_added0 nv x y z = (-1 : Int32) := show F_X12_added0 nv x y z = (-1 : Int32) from by rw [F_X12_added0, if_pos c2]
    exact e_i (u := [(h0, .inr (12, (vs.set 0 (.int 0))))]) X hQ hr (hW) [0] rfl rfl (⟨hF.symm, rfl⟩) ⟨Nat.le_of_ble_eq_true rfl, Nat.le_of_ble_eq_true rfl⟩ dX12_added_19
  · have q9 := c2
    refine lv_iload_n (pc := 9) hx hb dX12_added_9 rfl (lv_at hl 3 rfl) ?_
    refine lv_iconst (v := 0) (pc := 10) hx hb dX12_added_10 (by decide) ?_
    refine lv_iconst (v := 2) (pc := 11) hx hb dX12_added_11 (by decide) ?_
    refine c_Si (pc := 12) (As := [.int z, .int 0, .int 2]) (rest := []) (wr := [(h0, .inr (12, (vs.set 0 (.int 0))))]) X hW (K_X12_isIn l g z (0 : Int32) (2 : Int32)) vX12_198 [] [0] rfl rfl rfl rfl rfl rfl hl.1 rfl (Nat.le_of_ble_eq_true rfl) ⟨Nat.le_of_ble_eq_true rfl, Nat.le_of_ble_eq_true rfl⟩ ⟨Nat.le_of_ble_eq_true rfl, Nat.le_of_ble_eq_true rfl⟩ dX12_added_12 (fun r5 u9 H locs hq hW => ?_)
    obtain ⟨rfl, rfl⟩ := hq
    have hW : WD g A s _ _ [(h0, .inr (12, (vs.set 0 (.int 0))))] := hW
    refine lv_if_ne (tgt := 20) (pc := 15) hx hb dX12_added_15 rfl (fun c6 => ?_) (fun c6 => ?_)
    · exact False.elim (hbad.elim q9 c6)
    · refine lv_iconst (v := (-1)) (pc := 18) hx hb dX12_added_18 (by decide) ?_
      have hF : F_X12_added0 nv x y z = (-1 : Int32) := show F_X12_added0 nv x y z = (-1 : Int32) from by rw [F_X12_added0, if_neg c2, if_pos c6]
      exact e_i (u := [(h0, .inr (12, (vs.set 0 (.int 0))))]) X hQ hr (hW) [0] rfl rfl (⟨hF.symm, rfl⟩) ⟨Nat.le_of_ble_eq_true rfl, Nat.le_of_ble_eq_true rfl⟩ dX12_added_19

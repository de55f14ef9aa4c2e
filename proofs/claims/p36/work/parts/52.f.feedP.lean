/-- what a tape holds behind one more number, behind five: the class's, the reference's -/
def ptw (v : Int32) : Nat → (Nat → Int32) → Nat → Nat → Int32
  | 0, f, _ => f
  | j + 1, f, k => if byx v j = 0 then ptw v j f k else upd (ptw v j f k) (k + cnt v j) (byx v j)
def ptb (v : Int32) : Nat → (Nat → Int32) → Nat → Nat → Int32
  | 0, f, _ => f
  | j + 1, f, k => if byx v j = 0 then ptb v j f k else upd (ptb v j f k) (k + cnt v j) (vp_nar .byte (byx v j))
theorem ptw_s0 {v : Int32} {j k : Nat} {f : Nat → Int32} (h : byx v j = 0) : ptw v (j + 1) f k = ptw v j f k := if_pos h
theorem ptw_s1 {v : Int32} {j k : Nat} {f : Nat → Int32} (h : ¬ byx v j = 0) : ptw v (j + 1) f k = upd (ptw v j f k) (k + cnt v j) (byx v j) := if_neg h
theorem ptb_s0 {v : Int32} {j k : Nat} {f : Nat → Int32} (h : byx v j = 0) : ptb v (j + 1) f k = ptb v j f k := if_pos h
theorem ptb_s1 {v : Int32} {j k : Nat} {f : Nat → Int32} (h : ¬ byx v j = 0) : ptb v (j + 1) f k = upd (ptb v j f k) (k + cnt v j) (vp_nar .byte (byx v j)) := if_neg h
theorem upd_fn {f f' : Nat → Int32} {i : Nat} {x : Int32} (hi : i < 2 ^ 31) (e : upd f (nI i).toNatClampNeg x = f') : f' = upd f i x := by rw [← e, nI_clamp hi]
def pt5 (f : Nat → Int32) (n : Nat) (p0 p1 p2 p3 p4 : Int32) : Nat → Int32 := if n + s5 p0 p1 p2 p3 p4 ≤ 400 then (ptw p4 4 (ptw p3 4 (ptw p2 4 (ptw p1 4 (ptw p0 4 f n) (n + cnt p0 4)) (n + cnt p0 4 + cnt p1 4)) (n + cnt p0 4 + cnt p1 4 + cnt p2 4)) (n + cnt p0 4 + cnt p1 4 + cnt p2 4 + cnt p3 4)) else f
def pb5 (f : Nat → Int32) (n : Nat) (p0 p1 p2 p3 p4 : Int32) : Nat → Int32 := if n + s5 p0 p1 p2 p3 p4 ≤ 400 then (ptb p4 4 (ptb p3 4 (ptb p2 4 (ptb p1 4 (ptb p0 4 f n) (n + cnt p0 4)) (n + cnt p0 4 + cnt p1 4)) (n + cnt p0 4 + cnt p1 4 + cnt p2 4)) (n + cnt p0 4 + cnt p1 4 + cnt p2 4 + cnt p3 4)) else f
theorem nar_ub : ∀ k : Fin 256, vp_nar .byte (nI k.val) &&& 255 = nI k.val := by decide +kernel
theorem nar_byx (v : Int32) (j : Nat) : vp_nar .byte (byx v j) &&& 255 = byx v j := by
  obtain ⟨k, hk, ek⟩ := vp_in_of (pk_andIn ((v.toUInt32 >>> ((sh j).toUInt32 &&& Int32.toUInt32 31)).toInt32) (m := 255) 8 (by decide) (by decide)) (by decide)
  have e : byx v j = nI k := ek
  rw [e]
  exact nar_ub ⟨k, hk⟩
theorem t8_and (x : Int32) : (x &&& 255).toInt8 = x.toInt8 := by
  apply Int8.toBitVec_inj.mp
  rw [Int32.toBitVec_toInt8, Int32.toBitVec_toInt8, Int32.toBitVec_and, show (255 : Int32).toBitVec = 255#32 from rfl]
  apply BitVec.eq_of_getLsbD_eq
  intro i hi
  rw [BitVec.getLsbD_signExtend, BitVec.getLsbD_signExtend, if_pos (show i < 32 by omega), if_pos (show i < 32 by omega), BitVec.getLsbD_and]
  have h : ∀ i : Fin 8, (255#32).getLsbD i.val = true := by decide
  rw [h ⟨i, hi⟩, Bool.and_true]
theorem nar_st {v : Int32} {j : Nat} (h4 : j < 4) : vp_nar .byte (v >>> (sh j &&& 31)).toInt8.toInt32 = vp_nar .byte (byx v j) := by
  rw [← byz_eq v j h4]
  show ((v >>> (sh j &&& 31)).toInt8.toInt32).toInt8.toInt32 = ((v >>> (sh j &&& 31)) &&& 255).toInt8.toInt32
  rw [t8_and, Int8.toInt8_toInt32]
theorem ub_upd {f : Nat → Int32} {k : Nat} {x : Int32} : ub (upd f k x) = upd (ub f) k (x &&& 255) := funext fun j => by
  by_cases h : j = k
  · subst h; rw [upd_eq]; show upd f j x j &&& 255 = _; rw [upd_eq]
  · rw [upd_ne h]; show upd f k x j &&& 255 = _; rw [upd_ne h]; rfl
theorem ub_ptb {v : Int32} {f : Nat → Int32} {k : Nat} : ∀ j : Nat, ub (ptb v j f k) = ptw v j (ub f) k
  | 0 => rfl
  | j + 1 => by
    by_cases h : byx v j = 0
    · rw [ptb_s0 h, ptw_s0 h]; exact ub_ptb j
    · rw [ptb_s1 h, ptw_s1 h, ub_upd, ub_ptb j, nar_byx]
theorem ub_pb5 {f : Nat → Int32} {n : Nat} {p0 p1 p2 p3 p4 : Int32} : ub (pb5 f n p0 p1 p2 p3 p4) = pt5 (ub f) n p0 p1 p2 p3 p4 := by
  unfold pb5 pt5
  split
  · rw [ub_ptb, ub_ptb, ub_ptb, ub_ptb, ub_ptb]
  · rfl

set_option maxHeartbeats 4000000 in
set_option maxRecDepth 100000 in
theorem C_X8_appendNumberP (l : Launch) (g : GG) (h0 q : Nat) (f0 : Nat → Int32) (n0 : Nat) (pl v : Int32) (hn : n0 + cnt v 4 ≤ 400) : MetV l g yX8_appendNumber cX8_appendNumber 4 none 0 0 0 [.ref h0, .int v] [(h0, .inr (8, [.ref q, .int (nI n0), .int pl])), (q, .inl (g.2.1 1, 400, .inl f0))] (fun u => u = [(h0, .inr (8, [.ref q, .int (nI (n0 + cnt v 4)), .int pl])), (q, .inl (g.2.1 1, 400, .inl (ptw v 4 f0 n0)))]) := by
  refine MetV.of (own := RX8) rfl (by decide) (Nat.le_of_ble_eq_true rfl) ?_
  intro p e s m below meth c A ls args Q hQ X hr hin hW hl
  have hx := X.1
  have hb := X.2.1
  have hl : lv_has ls 4 [(0, .ref h0), (1, .int v)] := hl
  refine lv_bipush (v := 24) (pc := 0) hx hb dX8_appendNumber_0 (by decide) ?_
  refine lv_istore_n (lv' := [(2, .int 24), (0, .ref h0), (1, .int v)]) (pc := 2) hx hb dX8_appendNumber_2 rfl hl (by decide) rfl (fun ls hl => ?_)
  have loop1 : ∀ (n : Nat) (j : Nat) (k : Nat) (f : Nat → Int32), (5 ≤ n + j) → (j < 5) → (k = n0 + cnt v j) → (f = ptw v j f0 n0) → ∀ (H : Heap) (locs : List Loc) (ls : Array Slot), WD g A s H locs [(h0, .inr (8, [.ref q, .int (nI k), .int pl])), (q, .inl (g.2.1 1, 400, .inl f))] → lv_has ls 4 [(0, .ref h0), (1, .int v), (2, .int (sh j))] → W p l e (RM 0 0 0) s m args below meth c H locs 0 0 Q (F0 m 3 ls []) := by
    intro n
    induction n with
    | zero =>
      intro j k f hm hj hk hfe
      exact absurd hm (by omega)
    | succ n ih1 =>
      intro j k f hm hj hk hfe H locs ls hW hl
      refine lv_iload_n (pc := 3) hx hb dX8_appendNumber_3 rfl (lv_at hl 2 rfl) ?_
      refine lv_if_lt (tgt := 55) (pc := 4) hx hb dX8_appendNumber_4 rfl (fun c1 => ?_) (fun c1 => ?_)
      · have hex := c1
        exact e_v X hQ hr hW (u := [(h0, .inr (8, [.ref q, .int (nI k), .int pl])), (q, .inl (g.2.1 1, 400, .inl f))]) [0, 1] rfl rfl (by rw [hfe, hk, (sh_neg j hj).mp hex]) ⟨Nat.le_of_ble_eq_true rfl, Nat.le_of_ble_eq_true rfl⟩ dX8_appendNumber_55
      · have h4 : j < 4 := by have h9 := (not_congr (sh_neg j hj)).mp c1; omega
        refine lv_iload_n (pc := 7) hx hb dX8_appendNumber_7 rfl (lv_at hl 1 rfl) ?_
        refine lv_iload_n (pc := 8) hx hb dX8_appendNumber_8 rfl (lv_at hl 2 rfl) ?_
        refine lv_iushr (pc := 9) hx hb dX8_appendNumber_9 rfl ?_
        refine lv_topi (fun v2 ev2 => ?_)
        obtain rfl : v2 = (v.toUInt32 >>> ((sh j).toUInt32 &&& Int32.toUInt32 31)).toInt32 := ev2.trans (rfl)
        refine lv_sipush (v := 255) (pc := 10) hx hb dX8_appendNumber_10 (by decide) ?_
        refine lv_iand (pc := 13) hx hb dX8_appendNumber_13 ?_
        refine lv_topi (fun v3 ev3 => ?_)
        obtain rfl : v3 = byx v j := ev3.trans (rfl)
        refine lv_istore_n (lv' := [(3, .int (byx v j)), (0, .ref h0), (1, .int v), (2, .int (sh j))]) (pc := 14) hx hb dX8_appendNumber_14 rfl hl (by decide) rfl (fun ls hl => ?_)
        refine lv_iload_n (pc := 15) hx hb dX8_appendNumber_15 rfl (lv_at hl 0 rfl) ?_
        refine lv_if_eq (tgt := 49) (pc := 16) hx hb dX8_appendNumber_16 rfl (fun c4 => ?_) (fun c4 => ?_)
        · have hz0 := c4
          refine lv_iinc (v := sh (j + 1)) (lv' := [(2, .int (sh (j + 1))), (3, .int (byx v j)), (0, .ref h0), (1, .int v)]) (pc := 49) hx hb dX8_appendNumber_49 hl (k := 3) rfl (sh_step j h4) (by decide) rfl (fun ls hl => ?_)
          refine lv_goto (tgt := 3) (pc := 52) hx hb dX8_appendNumber_52 rfl ?_
          exact ih1 (j + 1) k f (by omega) (by omega) (by rw [cnt_s0 hz0]; omega) (by rw [ptw_s0 hz0]; exact hfe) _ _ _ hW (lv_sub hl [2, 3, 0] rfl)
        · have hz0 := c4
          have hlt : k < 400 := by have h8 := cnt_le v (j + 1) (by omega); rw [cnt_s1 hz0] at h8; omega
          refine lv_aload_n (pc := 19) hx hb dX8_appendNumber_19 rfl (lv_at hl 1 rfl) ?_
          refine r_get X hW 0 ciX8 1 rfl (by decide) m_37 rfl rfl dX8_appendNumber_20 ?_
          refine lv_sipush (v := 400) (pc := 23) hx hb dX8_appendNumber_23 (by decide) ?_
          refine lv_icmp_ge (tgt := 49) (pc := 26) hx hb dX8_appendNumber_26 rfl (fun c5 => absurd c5 (nI_ge hlt (by decide))) (fun c5 => ?_)
          refine lv_aload_n (pc := 29) hx hb dX8_appendNumber_29 rfl (lv_at hl 1 rfl) ?_
          refine r_get X hW 0 ciX8 0 rfl (by decide) m_36 rfl rfl dX8_appendNumber_30 ?_
          refine lv_aload_n (pc := 33) hx hb dX8_appendNumber_33 rfl (lv_at hl 1 rfl) ?_
          refine r_get X hW 0 ciX8 1 rfl (by decide) m_37 rfl rfl dX8_appendNumber_34 ?_
          refine lv_iload_n (pc := 37) hx hb dX8_appendNumber_37 rfl (lv_at hl 0 rfl) ?_
          obtain ⟨f6, ef6⟩ : ∃ fz : Nat → Int32, upd f (nI k).toNatClampNeg (byx v j) = fz := ⟨_, rfl⟩
          refine r_iast (ws' := [(h0, .inr (8, [.ref q, .int (nI k), .int pl])), (q, .inl (g.2.1 1, 400, .inl f6))]) X hW 1 rfl (vp_in_nI hlt (by decide)) ef6 rfl dX8_appendNumber_38 (fun H locs hW => ?_)
          refine lv_aload_n (pc := 39) hx hb dX8_appendNumber_39 rfl (lv_at hl 1 rfl) ?_
          refine lv_dup (pc := 40) hx hb dX8_appendNumber_40 rfl ?_
          refine r_get X hW 0 ciX8 1 rfl (by decide) m_37 rfl rfl dX8_appendNumber_41 ?_
          refine lv_iconst (v := 1) (pc := 44) hx hb dX8_appendNumber_44 (by decide) ?_
          refine lv_iadd (pc := 45) hx hb dX8_appendNumber_45 ?_
          refine lv_topi (fun v7 ev7 => ?_)
          obtain rfl : v7 = nI (k + 1) := ev7.trans (nI_1 k)
          refine r_put (ws' := [(h0, .inr (8, [.ref q, .int (nI (k + 1)), .int pl])), (q, .inl (g.2.1 1, 400, .inl f6))]) X hW 0 ciX8 1 rfl (by decide) m_37 rfl rfl rfl rfl (Nat.le_of_ble_eq_true rfl) rfl dX8_appendNumber_46 (fun H locs hW => ?_)
          refine lv_iinc (v := sh (j + 1)) (lv' := [(2, .int (sh (j + 1))), (3, .int (byx v j)), (0, .ref h0), (1, .int v)]) (pc := 49) hx hb dX8_appendNumber_49 hl (k := 3) rfl (sh_step j h4) (by decide) rfl (fun ls hl => ?_)
          refine lv_goto (tgt := 3) (pc := 52) hx hb dX8_appendNumber_52 rfl ?_
          exact ih1 (j + 1) (k + 1) f6 (by omega) (by omega) (by rw [cnt_s1 hz0]; omega) (by rw [ptw_s1 hz0, ← hfe, ← hk]; exact upd_fn (by omega) ef6) _ _ _ hW (lv_sub hl [2, 3, 0] rfl)
  exact loop1 5 0 n0 f0 (by decide) (by decide) rfl rfl _ _ _ hW (lv_sub hl [1, 2, 0] rfl)

set_option maxHeartbeats 4000000 in
set_option maxRecDepth 100000 in
theorem C_X8_appendP (l : Launch) (g : GG) (h0 q : Nat) (f0 : Nat → Int32) (n0 : Nat) (pl : Int32) (hn0 : n0 ≤ 400) (p0 p1 p2 p3 p4 : Int32) : MetI l g yX8_append cX8_append 7 (some .int) 1 0 0 [.ref h0, .int p0, .int p1, .int p2, .int p3, .int p4] [(h0, .inr (8, [.ref q, .int (nI n0), .int pl])), (q, .inl (g.2.1 1, 400, .inl f0))] (fun r u => r = fdr n0 (s5 p0 p1 p2 p3 p4) ∧ u = [(h0, .inr (8, [.ref q, .int (nI (fdn n0 (s5 p0 p1 p2 p3 p4))), .int pl])), (q, .inl (g.2.1 1, 400, .inl (pt5 f0 n0 p0 p1 p2 p3 p4)))]) := by
  refine MetI.of (own := RX8) rfl (by decide) (Nat.le_of_ble_eq_true rfl) ?_
  intro p e s m below meth c A ls args Q hQ X hr hin hW hl
  have hx := X.1
  have hb := X.2.1
  have hl : lv_has ls 7 [(0, .ref h0), (1, .int p0), (2, .int p1), (3, .int p2), (4, .int p3), (5, .int p4)] := hl
  have k0 := cnt_4 p0
  have k1 := cnt_4 p1
  have k2 := cnt_4 p2
  have k3 := cnt_4 p3
  have k4 := cnt_4 p4
  refine lv_iload_n (pc := 0) hx hb dX8_append_0 rfl (lv_at hl 1 rfl) ?_
  refine c_Si (pc := 1) (As := [.int p0]) (rest := []) (wr := [(h0, .inr (8, [.ref q, .int (nI n0), .int pl])), (q, .inl (g.2.1 1, 400, .inl f0))]) X hW (C_X8_bytesIn l g p0) vX8_15 [] [0, 1] rfl rfl rfl rfl rfl rfl hl.1 rfl (Nat.le_of_ble_eq_true rfl) ⟨Nat.le_of_ble_eq_true rfl, Nat.le_of_ble_eq_true rfl⟩ ⟨Nat.le_of_ble_eq_true rfl, Nat.le_of_ble_eq_true rfl⟩ dX8_append_1 (fun r1 u9 H locs hq hW => ?_)
  obtain ⟨rfl, rfl⟩ := hq
  have hW : WD g A s _ _ [(h0, .inr (8, [.ref q, .int (nI n0), .int pl])), (q, .inl (g.2.1 1, 400, .inl f0))] := hW
  refine lv_iload_n (pc := 4) hx hb dX8_append_4 rfl (lv_at hl 2 rfl) ?_
  refine c_Si (pc := 5) (As := [.int p1]) (rest := [.int (nI (cnt p0 4))]) (wr := [(h0, .inr (8, [.ref q, .int (nI n0), .int pl])), (q, .inl (g.2.1 1, 400, .inl f0))]) X hW (C_X8_bytesIn l g p1) vX8_15 [] [0, 1] rfl rfl rfl rfl rfl rfl hl.1 rfl (Nat.le_of_ble_eq_true rfl) ⟨Nat.le_of_ble_eq_true rfl, Nat.le_of_ble_eq_true rfl⟩ ⟨Nat.le_of_ble_eq_true rfl, Nat.le_of_ble_eq_true rfl⟩ dX8_append_5 (fun r2 u9 H locs hq hW => ?_)
  obtain ⟨rfl, rfl⟩ := hq
  have hW : WD g A s _ _ [(h0, .inr (8, [.ref q, .int (nI n0), .int pl])), (q, .inl (g.2.1 1, 400, .inl f0))] := hW
  refine lv_iadd (pc := 8) hx hb dX8_append_8 ?_
  refine lv_topi (fun v3 ev3 => ?_)
  obtain rfl : v3 = nI (cnt p0 4 + cnt p1 4) := ev3.trans (nI_add _ _)
  refine lv_iload_n (pc := 9) hx hb dX8_append_9 rfl (lv_at hl 3 rfl) ?_
  refine c_Si (pc := 10) (As := [.int p2]) (rest := [.int (nI (cnt p0 4 + cnt p1 4))]) (wr := [(h0, .inr (8, [.ref q, .int (nI n0), .int pl])), (q, .inl (g.2.1 1, 400, .inl f0))]) X hW (C_X8_bytesIn l g p2) vX8_15 [] [0, 1] rfl rfl rfl rfl rfl rfl hl.1 rfl (Nat.le_of_ble_eq_true rfl) ⟨Nat.le_of_ble_eq_true rfl, Nat.le_of_ble_eq_true rfl⟩ ⟨Nat.le_of_ble_eq_true rfl, Nat.le_of_ble_eq_true rfl⟩ dX8_append_10 (fun r4 u9 H locs hq hW => ?_)
  obtain ⟨rfl, rfl⟩ := hq
  have hW : WD g A s _ _ [(h0, .inr (8, [.ref q, .int (nI n0), .int pl])), (q, .inl (g.2.1 1, 400, .inl f0))] := hW
  refine lv_iadd (pc := 13) hx hb dX8_append_13 ?_
  refine lv_topi (fun v5 ev5 => ?_)
  obtain rfl : v5 = nI (cnt p0 4 + cnt p1 4 + cnt p2 4) := ev5.trans (nI_add _ _)
  refine lv_iload (pc := 14) hx hb dX8_append_14 (lv_at hl 4 rfl) ?_
  refine c_Si (pc := 16) (As := [.int p3]) (rest := [.int (nI (cnt p0 4 + cnt p1 4 + cnt p2 4))]) (wr := [(h0, .inr (8, [.ref q, .int (nI n0), .int pl])), (q, .inl (g.2.1 1, 400, .inl f0))]) X hW (C_X8_bytesIn l g p3) vX8_15 [] [0, 1] rfl rfl rfl rfl rfl rfl hl.1 rfl (Nat.le_of_ble_eq_true rfl) ⟨Nat.le_of_ble_eq_true rfl, Nat.le_of_ble_eq_true rfl⟩ ⟨Nat.le_of_ble_eq_true rfl, Nat.le_of_ble_eq_true rfl⟩ dX8_append_16 (fun r6 u9 H locs hq hW => ?_)
  obtain ⟨rfl, rfl⟩ := hq
  have hW : WD g A s _ _ [(h0, .inr (8, [.ref q, .int (nI n0), .int pl])), (q, .inl (g.2.1 1, 400, .inl f0))] := hW
  refine lv_iadd (pc := 19) hx hb dX8_append_19 ?_
  refine lv_topi (fun v7 ev7 => ?_)
  obtain rfl : v7 = nI (cnt p0 4 + cnt p1 4 + cnt p2 4 + cnt p3 4) := ev7.trans (nI_add _ _)
  refine lv_iload (pc := 20) hx hb dX8_append_20 (lv_at hl 5 rfl) ?_
  refine c_Si (pc := 22) (As := [.int p4]) (rest := [.int (nI (cnt p0 4 + cnt p1 4 + cnt p2 4 + cnt p3 4))]) (wr := [(h0, .inr (8, [.ref q, .int (nI n0), .int pl])), (q, .inl (g.2.1 1, 400, .inl f0))]) X hW (C_X8_bytesIn l g p4) vX8_15 [] [0, 1] rfl rfl rfl rfl rfl rfl hl.1 rfl (Nat.le_of_ble_eq_true rfl) ⟨Nat.le_of_ble_eq_true rfl, Nat.le_of_ble_eq_true rfl⟩ ⟨Nat.le_of_ble_eq_true rfl, Nat.le_of_ble_eq_true rfl⟩ dX8_append_22 (fun r8 u9 H locs hq hW => ?_)
  obtain ⟨rfl, rfl⟩ := hq
  have hW : WD g A s _ _ [(h0, .inr (8, [.ref q, .int (nI n0), .int pl])), (q, .inl (g.2.1 1, 400, .inl f0))] := hW
  refine lv_iadd (pc := 25) hx hb dX8_append_25 ?_
  refine lv_topi (fun v9 ev9 => ?_)
  obtain rfl : v9 = nI (cnt p0 4 + cnt p1 4 + cnt p2 4 + cnt p3 4 + cnt p4 4) := ev9.trans (nI_add _ _)
  refine lv_istore (lv' := [(6, .int (nI (cnt p0 4 + cnt p1 4 + cnt p2 4 + cnt p3 4 + cnt p4 4))), (0, .ref h0), (1, .int p0), (2, .int p1), (3, .int p2), (4, .int p3), (5, .int p4)]) (pc := 26) hx hb dX8_append_26 hl (by decide) rfl (fun ls hl => ?_)
  refine lv_aload_n (pc := 28) hx hb dX8_append_28 rfl (lv_at hl 1 rfl) ?_
  refine r_get X hW 0 ciX8 1 rfl (by decide) m_37 rfl rfl dX8_append_29 ?_
  refine lv_iload (pc := 32) hx hb dX8_append_32 (lv_at hl 0 rfl) ?_
  refine lv_iadd (pc := 34) hx hb dX8_append_34 ?_
  refine lv_topi (fun v10 ev10 => ?_)
  obtain rfl : v10 = nI (n0 + (cnt p0 4 + cnt p1 4 + cnt p2 4 + cnt p3 4 + cnt p4 4)) := ev10.trans (nI_add _ _)
  refine lv_sipush (v := 400) (pc := 35) hx hb dX8_append_35 (by decide) ?_
  refine lv_icmp_le (tgt := 43) (pc := 38) hx hb dX8_append_38 rfl (fun c11 => ?_) (fun c11 => ?_)
  · have hfit : n0 + (cnt p0 4 + cnt p1 4 + cnt p2 4 + cnt p3 4 + cnt p4 4) ≤ 400 := (nI_leI (by omega) (by decide)).mp c11
    refine lv_aload_n (pc := 43) hx hb dX8_append_43 rfl (lv_at hl 1 rfl) ?_
    refine lv_iload_n (pc := 44) hx hb dX8_append_44 rfl (lv_at hl 2 rfl) ?_
    refine c_Vv (pc := 45) (As := [.int p0]) (rest := []) (wr := []) X hW 0 ciX8 rfl (C_X8_appendNumberP l g h0 q f0 n0 pl p0 (by omega)) vX8_23 [0, 1] [] rfl rfl rfl rfl rfl rfl hl.1 rfl (Nat.le_of_ble_eq_true rfl) ⟨Nat.le_of_ble_eq_true rfl, Nat.le_of_ble_eq_true rfl⟩ ⟨Nat.le_of_ble_eq_true rfl, Nat.le_of_ble_eq_true rfl⟩ dX8_append_45 (fun u9 H locs hq hW => ?_)
    obtain rfl := hq
    have hW : WD g A s _ _ [(h0, .inr (8, [.ref q, .int (nI (n0 + cnt p0 4)), .int pl])), (q, .inl (g.2.1 1, 400, .inl (ptw p0 4 f0 n0)))] := hW
    refine lv_aload_n (pc := 48) hx hb dX8_append_48 rfl (lv_at hl 1 rfl) ?_
    refine lv_iload_n (pc := 49) hx hb dX8_append_49 rfl (lv_at hl 3 rfl) ?_
    refine c_Vv (pc := 50) (As := [.int p1]) (rest := []) (wr := []) X hW 0 ciX8 rfl (C_X8_appendNumberP l g h0 q (ptw p0 4 f0 n0) (n0 + cnt p0 4) pl p1 (by omega)) vX8_23 [0, 1] [] rfl rfl rfl rfl rfl rfl hl.1 rfl (Nat.le_of_ble_eq_true rfl) ⟨Nat.le_of_ble_eq_true rfl, Nat.le_of_ble_eq_true rfl⟩ ⟨Nat.le_of_ble_eq_true rfl, Nat.le_of_ble_eq_true rfl⟩ dX8_append_50 (fun u9 H locs hq hW => ?_)
    obtain rfl := hq
    have hW : WD g A s _ _ [(h0, .inr (8, [.ref q, .int (nI ((n0 + cnt p0 4) + cnt p1 4)), .int pl])), (q, .inl (g.2.1 1, 400, .inl (ptw p1 4 (ptw p0 4 f0 n0) (n0 + cnt p0 4))))] := hW
    refine lv_aload_n (pc := 53) hx hb dX8_append_53 rfl (lv_at hl 1 rfl) ?_
    refine lv_iload_n (pc := 54) hx hb dX8_append_54 rfl (lv_at hl 4 rfl) ?_
    refine c_Vv (pc := 55) (As := [.int p2]) (rest := []) (wr := []) X hW 0 ciX8 rfl (C_X8_appendNumberP l g h0 q (ptw p1 4 (ptw p0 4 f0 n0) (n0 + cnt p0 4)) ((n0 + cnt p0 4) + cnt p1 4) pl p2 (by omega)) vX8_23 [0, 1] [] rfl rfl rfl rfl rfl rfl hl.1 rfl (Nat.le_of_ble_eq_true rfl) ⟨Nat.le_of_ble_eq_true rfl, Nat.le_of_ble_eq_true rfl⟩ ⟨Nat.le_of_ble_eq_true rfl, Nat.le_of_ble_eq_true rfl⟩ dX8_append_55 (fun u9 H locs hq hW => ?_)
    obtain rfl := hq
    have hW : WD g A s _ _ [(h0, .inr (8, [.ref q, .int (nI (((n0 + cnt p0 4) + cnt p1 4) + cnt p2 4)), .int pl])), (q, .inl (g.2.1 1, 400, .inl (ptw p2 4 (ptw p1 4 (ptw p0 4 f0 n0) (n0 + cnt p0 4)) ((n0 + cnt p0 4) + cnt p1 4))))] := hW
    refine lv_aload_n (pc := 58) hx hb dX8_append_58 rfl (lv_at hl 1 rfl) ?_
    refine lv_iload (pc := 59) hx hb dX8_append_59 (lv_at hl 5 rfl) ?_
    refine c_Vv (pc := 61) (As := [.int p3]) (rest := []) (wr := []) X hW 0 ciX8 rfl (C_X8_appendNumberP l g h0 q (ptw p2 4 (ptw p1 4 (ptw p0 4 f0 n0) (n0 + cnt p0 4)) ((n0 + cnt p0 4) + cnt p1 4)) (((n0 + cnt p0 4) + cnt p1 4) + cnt p2 4) pl p3 (by omega)) vX8_23 [0, 1] [] rfl rfl rfl rfl rfl rfl hl.1 rfl (Nat.le_of_ble_eq_true rfl) ⟨Nat.le_of_ble_eq_true rfl, Nat.le_of_ble_eq_true rfl⟩ ⟨Nat.le_of_ble_eq_true rfl, Nat.le_of_ble_eq_true rfl⟩ dX8_append_61 (fun u9 H locs hq hW => ?_)
    obtain rfl := hq
    have hW : WD g A s _ _ [(h0, .inr (8, [.ref q, .int (nI ((((n0 + cnt p0 4) + cnt p1 4) + cnt p2 4) + cnt p3 4)), .int pl])), (q, .inl (g.2.1 1, 400, .inl (ptw p3 4 (ptw p2 4 (ptw p1 4 (ptw p0 4 f0 n0) (n0 + cnt p0 4)) ((n0 + cnt p0 4) + cnt p1 4)) (((n0 + cnt p0 4) + cnt p1 4) + cnt p2 4))))] := hW
    refine lv_aload_n (pc := 64) hx hb dX8_append_64 rfl (lv_at hl 1 rfl) ?_
    refine lv_iload (pc := 65) hx hb dX8_append_65 (lv_at hl 6 rfl) ?_
    refine c_Vv (pc := 67) (As := [.int p4]) (rest := []) (wr := []) X hW 0 ciX8 rfl (C_X8_appendNumberP l g h0 q (ptw p3 4 (ptw p2 4 (ptw p1 4 (ptw p0 4 f0 n0) (n0 + cnt p0 4)) ((n0 + cnt p0 4) + cnt p1 4)) (((n0 + cnt p0 4) + cnt p1 4) + cnt p2 4)) ((((n0 + cnt p0 4) + cnt p1 4) + cnt p2 4) + cnt p3 4) pl p4 (by omega)) vX8_23 [0, 1] [] rfl rfl rfl rfl rfl rfl hl.1 rfl (Nat.le_of_ble_eq_true rfl) ⟨Nat.le_of_ble_eq_true rfl, Nat.le_of_ble_eq_true rfl⟩ ⟨Nat.le_of_ble_eq_true rfl, Nat.le_of_ble_eq_true rfl⟩ dX8_append_67 (fun u9 H locs hq hW => ?_)
    obtain rfl := hq
    have hW : WD g A s _ _ [(h0, .inr (8, [.ref q, .int (nI (((((n0 + cnt p0 4) + cnt p1 4) + cnt p2 4) + cnt p3 4) + cnt p4 4)), .int pl])), (q, .inl (g.2.1 1, 400, .inl (ptw p4 4 (ptw p3 4 (ptw p2 4 (ptw p1 4 (ptw p0 4 f0 n0) (n0 + cnt p0 4)) ((n0 + cnt p0 4) + cnt p1 4)) (((n0 + cnt p0 4) + cnt p1 4) + cnt p2 4)) ((((n0 + cnt p0 4) + cnt p1 4) + cnt p2 4) + cnt p3 4))))] := hW
    refine lv_aload_n (pc := 70) hx hb dX8_append_70 rfl (lv_at hl 1 rfl) ?_
    refine r_get X hW 0 ciX8 1 rfl (by decide) m_37 rfl rfl dX8_append_71 ?_
    exact e_i X hQ hr hW (u := [(h0, .inr (8, [.ref q, .int (nI (((((n0 + cnt p0 4) + cnt p1 4) + cnt p2 4) + cnt p3 4) + cnt p4 4)), .int pl])), (q, .inl (g.2.1 1, 400, .inl (ptw p4 4 (ptw p3 4 (ptw p2 4 (ptw p1 4 (ptw p0 4 f0 n0) (n0 + cnt p0 4)) ((n0 + cnt p0 4) + cnt p1 4)) (((n0 + cnt p0 4) + cnt p1 4) + cnt p2 4)) ((((n0 + cnt p0 4) + cnt p1 4) + cnt p2 4) + cnt p3 4))))]) [0, 1] rfl rfl (⟨by rw [show fdr n0 (s5 p0 p1 p2 p3 p4) = nI (n0 + (s5 p0 p1 p2 p3 p4)) from if_pos hfit]; simp only [s5, Nat.add_assoc], by rw [show fdn n0 (s5 p0 p1 p2 p3 p4) = n0 + (s5 p0 p1 p2 p3 p4) from if_pos hfit, show pt5 f0 n0 p0 p1 p2 p3 p4 = (ptw p4 4 (ptw p3 4 (ptw p2 4 (ptw p1 4 (ptw p0 4 f0 n0) (n0 + cnt p0 4)) (n0 + cnt p0 4 + cnt p1 4)) (n0 + cnt p0 4 + cnt p1 4 + cnt p2 4)) (n0 + cnt p0 4 + cnt p1 4 + cnt p2 4 + cnt p3 4)) from if_pos hfit]; simp only [s5, Nat.add_assoc]⟩) ⟨Nat.le_of_ble_eq_true rfl, Nat.le_of_ble_eq_true rfl⟩ dX8_append_74
  · have hfit : ¬ n0 + (cnt p0 4 + cnt p1 4 + cnt p2 4 + cnt p3 4 + cnt p4 4) ≤ 400 := fun q => c11 ((nI_leI (a := n0 + (cnt p0 4 + cnt p1 4 + cnt p2 4 + cnt p3 4 + cnt p4 4)) (b := 400) (by omega) (by decide)).mpr q)
    refine lv_iconst (v := (-1)) (pc := 41) hx hb dX8_append_41 (by decide) ?_
    exact e_i X hQ hr hW (u := [(h0, .inr (8, [.ref q, .int (nI n0), .int pl])), (q, .inl (g.2.1 1, 400, .inl f0))]) [0, 1] rfl rfl (⟨(if_neg hfit).symm, by rw [show fdn n0 (s5 p0 p1 p2 p3 p4) = n0 from if_neg hfit, show pt5 f0 n0 p0 p1 p2 p3 p4 = f0 from if_neg hfit]⟩) ⟨Nat.le_of_ble_eq_true rfl, Nat.le_of_ble_eq_true rfl⟩ dX8_append_42

set_option maxHeartbeats 4000000 in
set_option maxRecDepth 100000 in
theorem C_X11_feedP (l : Launch) (g : GG) (h0 a0 a1 a2 a3 a4 a5 a6 a7 a8 a9 a10 q : Nat) (j11 j12 j13 : Int32) (f0 : Nat → Int32) (n0 : Nat) (pl : Int32) (hn0 : n0 ≤ 400) (p0 p1 p2 p3 p4 : Int32) : MetI l g yX11_feed cX11_feed 6 (some .int) 2 0 0 [.ref h0, .int p0, .int p1, .int p2, .int p3, .int p4] [(h0, .inr (11, [.ref a0, .ref a1, .ref a2, .ref a3, .ref a4, .ref a5, .ref a6, .ref a7, .ref a8, .ref a9, .ref a10, .int j11, .int j12, .int j13])), (a0, .inr (8, [.ref q, .int (nI n0), .int pl])), (q, .inl (g.2.1 1, 400, .inl f0))] (fun r u => r = fdr n0 (s5 p0 p1 p2 p3 p4) ∧ u = [(h0, .inr (11, [.ref a0, .ref a1, .ref a2, .ref a3, .ref a4, .ref a5, .ref a6, .ref a7, .ref a8, .ref a9, .ref a10, .int j11, .int j12, .int j13])), (a0, .inr (8, [.ref q, .int (nI (fdn n0 (s5 p0 p1 p2 p3 p4))), .int pl])), (q, .inl (g.2.1 1, 400, .inl (pt5 f0 n0 p0 p1 p2 p3 p4)))]) := by
  refine MetI.of (own := RX11) rfl (by decide) (Nat.le_of_ble_eq_true rfl) ?_
  intro p e s m below meth c A ls args Q hQ X hr hin hW hl
  have hx := X.1
  have hb := X.2.1
  have hl : lv_has ls 6 [(0, .ref h0), (1, .int p0), (2, .int p1), (3, .int p2), (4, .int p3), (5, .int p4)] := hl
  refine lv_aload_n (pc := 0) hx hb dX11_feed_0 rfl (lv_at hl 0 rfl) ?_
  refine r_get X hW 0 ciX11 0 rfl (by decide) m_353 rfl rfl dX11_feed_1 ?_
  refine lv_iload_n (pc := 4) hx hb dX11_feed_4 rfl (lv_at hl 1 rfl) ?_
  refine lv_iload_n (pc := 5) hx hb dX11_feed_5 rfl (lv_at hl 2 rfl) ?_
  refine lv_iload_n (pc := 6) hx hb dX11_feed_6 rfl (lv_at hl 3 rfl) ?_
  refine lv_iload (pc := 7) hx hb dX11_feed_7 (lv_at hl 4 rfl) ?_
  refine lv_iload (pc := 9) hx hb dX11_feed_9 (lv_at hl 5 rfl) ?_
  refine c_Vi (pc := 11) (As := [.int p0, .int p1, .int p2, .int p3, .int p4]) (rest := []) (wr := [(h0, .inr (11, [.ref a0, .ref a1, .ref a2, .ref a3, .ref a4, .ref a5, .ref a6, .ref a7, .ref a8, .ref a9, .ref a10, .int j11, .int j12, .int j13]))]) X hW 1 ciX8 rfl (C_X8_appendP l g a0 q f0 n0 pl hn0 p0 p1 p2 p3 p4) vX11_82 [1, 2] [0] rfl rfl rfl rfl rfl rfl hl.1 rfl (Nat.le_of_ble_eq_true rfl) ⟨Nat.le_of_ble_eq_true rfl, Nat.le_of_ble_eq_true rfl⟩ ⟨Nat.le_of_ble_eq_true rfl, Nat.le_of_ble_eq_true rfl⟩ dX11_feed_11 (fun r2 u9 H locs hq hW => ?_)
  obtain ⟨rfl, rfl⟩ := hq
  have hW : WD g A s _ _ [(h0, .inr (11, [.ref a0, .ref a1, .ref a2, .ref a3, .ref a4, .ref a5, .ref a6, .ref a7, .ref a8, .ref a9, .ref a10, .int j11, .int j12, .int j13])), (a0, .inr (8, [.ref q, .int (nI (fdn n0 (s5 p0 p1 p2 p3 p4))), .int pl])), (q, .inl (g.2.1 1, 400, .inl (pt5 f0 n0 p0 p1 p2 p3 p4)))] := hW
  exact e_i X hQ hr hW (u := [(h0, .inr (11, [.ref a0, .ref a1, .ref a2, .ref a3, .ref a4, .ref a5, .ref a6, .ref a7, .ref a8, .ref a9, .ref a10, .int j11, .int j12, .int j13])), (a0, .inr (8, [.ref q, .int (nI (fdn n0 (s5 p0 p1 p2 p3 p4))), .int pl])), (q, .inl (g.2.1 1, 400, .inl (pt5 f0 n0 p0 p1 p2 p3 p4)))]) [0, 1, 2] rfl rfl (⟨rfl, rfl⟩) ⟨Nat.le_of_ble_eq_true rfl, Nat.le_of_ble_eq_true rfl⟩ dX11_feed_14

set_option maxHeartbeats 4000000 in
set_option maxRecDepth 100000 in
theorem C_X12_putP (l : Launch) (g : GG) (h0 b1 b6 b7 b8 b9 b10 b11 b12 b13 b14 b15 b16 b17 b21 b22 b23 b24 b25 b26 b28 b29 b30 b31 b32 b33 b34 b35 b36 b46 b47 b48 b49 b50 b51 b52 b53 b54 b55 b56 b57 b58 b59 b60 b61 b62 b63 : Nat) (i0 i3 i4 i5 i18 i19 i20 i27 i37 i38 i39 i40 i41 i42 i43 i44 i45 : Int32) (f0 : Nat → Int32) (n0 : Nat) (v : Int32) (hn : n0 + cnt v 4 ≤ 400) : MetV l g yX12_put cX12_put 3 none 0 0 0 [.ref h0, .int v] [(h0, .inr (12, [.int i0, .ref b1, .int (nI n0), .int i3, .int i4, .int i5, .ref b6, .ref b7, .ref b8, .ref b9, .ref b10, .ref b11, .ref b12, .ref b13, .ref b14, .ref b15, .ref b16, .ref b17, .int i18, .int i19, .int i20, .ref b21, .ref b22, .ref b23, .ref b24, .ref b25, .ref b26, .int i27, .ref b28, .ref b29, .ref b30, .ref b31, .ref b32, .ref b33, .ref b34, .ref b35, .ref b36, .int i37, .int i38, .int i39, .int i40, .int i41, .int i42, .int i43, .int i44, .int i45, .ref b46, .ref b47, .ref b48, .ref b49, .ref b50, .ref b51, .ref b52, .ref b53, .ref b54, .ref b55, .ref b56, .ref b57, .ref b58, .ref b59, .ref b60, .ref b61, .ref b62, .ref b63])), (b1, .inl (g.2.1 0, 400, .inl f0))] (fun u => u = [(h0, .inr (12, [.int i0, .ref b1, .int (nI (n0 + cnt v 4)), .int i3, .int i4, .int i5, .ref b6, .ref b7, .ref b8, .ref b9, .ref b10, .ref b11, .ref b12, .ref b13, .ref b14, .ref b15, .ref b16, .ref b17, .int i18, .int i19, .int i20, .ref b21, .ref b22, .ref b23, .ref b24, .ref b25, .ref b26, .int i27, .ref b28, .ref b29, .ref b30, .ref b31, .ref b32, .ref b33, .ref b34, .ref b35, .ref b36, .int i37, .int i38, .int i39, .int i40, .int i41, .int i42, .int i43, .int i44, .int i45, .ref b46, .ref b47, .ref b48, .ref b49, .ref b50, .ref b51, .ref b52, .ref b53, .ref b54, .ref b55, .ref b56, .ref b57, .ref b58, .ref b59, .ref b60, .ref b61, .ref b62, .ref b63])), (b1, .inl (g.2.1 0, 400, .inl (ptb v 4 f0 n0)))]) := by
  refine MetV.of (own := RX12) rfl (by decide) (Nat.le_of_ble_eq_true rfl) ?_
  intro p e s m below meth c A ls args Q hQ X hr hin hW hl
  have hx := X.1
  have hb := X.2.1
  have hl : lv_has ls 3 [(0, .ref h0), (1, .int v)] := hl
  refine lv_bipush (v := 24) (pc := 0) hx hb dX12_put_0 (by decide) ?_
  refine lv_istore_n (lv' := [(2, .int 24), (0, .ref h0), (1, .int v)]) (pc := 2) hx hb dX12_put_2 rfl hl (by decide) rfl (fun ls hl => ?_)
  have loop1 : ∀ (n : Nat) (j : Nat) (k : Nat) (f : Nat → Int32), (5 ≤ n + j) → (j < 5) → (k = n0 + cnt v j) → (f = ptb v j f0 n0) → ∀ (H : Heap) (locs : List Loc) (ls : Array Slot), WD g A s H locs [(h0, .inr (12, [.int i0, .ref b1, .int (nI k), .int i3, .int i4, .int i5, .ref b6, .ref b7, .ref b8, .ref b9, .ref b10, .ref b11, .ref b12, .ref b13, .ref b14, .ref b15, .ref b16, .ref b17, .int i18, .int i19, .int i20, .ref b21, .ref b22, .ref b23, .ref b24, .ref b25, .ref b26, .int i27, .ref b28, .ref b29, .ref b30, .ref b31, .ref b32, .ref b33, .ref b34, .ref b35, .ref b36, .int i37, .int i38, .int i39, .int i40, .int i41, .int i42, .int i43, .int i44, .int i45, .ref b46, .ref b47, .ref b48, .ref b49, .ref b50, .ref b51, .ref b52, .ref b53, .ref b54, .ref b55, .ref b56, .ref b57, .ref b58, .ref b59, .ref b60, .ref b61, .ref b62, .ref b63])), (b1, .inl (g.2.1 0, 400, .inl f))] → lv_has ls 3 [(0, .ref h0), (1, .int v), (2, .int (sh j))] → W p l e (RM 0 0 0) s m args below meth c H locs 0 0 Q (F0 m 3 ls []) := by
    intro n
    induction n with
    | zero =>
      intro j k f hm hj hk hfe
      exact absurd hm (by omega)
    | succ n ih1 =>
      intro j k f hm hj hk hfe H locs ls hW hl
      refine lv_iload_n (pc := 3) hx hb dX12_put_3 rfl (lv_at hl 2 rfl) ?_
      refine lv_if_lt (tgt := 49) (pc := 4) hx hb dX12_put_4 rfl (fun c1 => ?_) (fun c1 => ?_)
      · have hex := c1
        exact e_v X hQ hr hW (u := [(h0, .inr (12, [.int i0, .ref b1, .int (nI k), .int i3, .int i4, .int i5, .ref b6, .ref b7, .ref b8, .ref b9, .ref b10, .ref b11, .ref b12, .ref b13, .ref b14, .ref b15, .ref b16, .ref b17, .int i18, .int i19, .int i20, .ref b21, .ref b22, .ref b23, .ref b24, .ref b25, .ref b26, .int i27, .ref b28, .ref b29, .ref b30, .ref b31, .ref b32, .ref b33, .ref b34, .ref b35, .ref b36, .int i37, .int i38, .int i39, .int i40, .int i41, .int i42, .int i43, .int i44, .int i45, .ref b46, .ref b47, .ref b48, .ref b49, .ref b50, .ref b51, .ref b52, .ref b53, .ref b54, .ref b55, .ref b56, .ref b57, .ref b58, .ref b59, .ref b60, .ref b61, .ref b62, .ref b63])), (b1, .inl (g.2.1 0, 400, .inl f))]) [0, 1] rfl rfl (by rw [hfe, hk, (sh_neg j hj).mp hex]) ⟨Nat.le_of_ble_eq_true rfl, Nat.le_of_ble_eq_true rfl⟩ dX12_put_49
      · have h4 : j < 4 := by have h9 := (not_congr (sh_neg j hj)).mp c1; omega
        refine lv_iload_n (pc := 7) hx hb dX12_put_7 rfl (lv_at hl 1 rfl) ?_
        refine lv_iload_n (pc := 8) hx hb dX12_put_8 rfl (lv_at hl 2 rfl) ?_
        refine lv_ishr (pc := 9) hx hb dX12_put_9 ?_
        refine lv_topi (fun v2 ev2 => ?_)
        obtain rfl : v2 = v >>> (sh j &&& 31) := ev2.trans (rfl)
        refine lv_sipush (v := 255) (pc := 10) hx hb dX12_put_10 (by decide) ?_
        refine lv_iand (pc := 13) hx hb dX12_put_13 ?_
        refine lv_topi (fun v3 ev3 => ?_)
        obtain rfl : v3 = byx v j := ev3.trans (byz_eq v j h4)
        refine lv_if_ne (tgt := 20) (pc := 14) hx hb dX12_put_14 rfl (fun c4 => ?_) (fun c4 => ?_)
        · have hz0 := c4
          have hlt : k < 400 := by have h8 := cnt_le v (j + 1) (by omega); rw [cnt_s1 hz0] at h8; omega
          refine lv_aload_n (pc := 20) hx hb dX12_put_20 rfl (lv_at hl 0 rfl) ?_
          refine r_get X hW 0 ciX12 1 rfl (by decide) m_1232 rfl rfl dX12_put_21 ?_
          refine lv_aload_n (pc := 24) hx hb dX12_put_24 rfl (lv_at hl 0 rfl) ?_
          refine r_get X hW 0 ciX12 2 rfl (by decide) m_1233 rfl rfl dX12_put_25 ?_
          refine lv_iload_n (pc := 28) hx hb dX12_put_28 rfl (lv_at hl 1 rfl) ?_
          refine lv_iload_n (pc := 29) hx hb dX12_put_29 rfl (lv_at hl 2 rfl) ?_
          refine lv_ishr (pc := 30) hx hb dX12_put_30 ?_
          refine lv_i2b (pc := 31) hx hb dX12_put_31 rfl ?_
          obtain ⟨f5, ef5⟩ : ∃ fz : Nat → Int32, upd f (nI k).toNatClampNeg (vp_nar .byte ((v >>> ((sh j) &&& 31)).toInt8.toInt32)) = fz := ⟨_, rfl⟩
          refine r_bast (ws' := [(h0, .inr (12, [.int i0, .ref b1, .int (nI k), .int i3, .int i4, .int i5, .ref b6, .ref b7, .ref b8, .ref b9, .ref b10, .ref b11, .ref b12, .ref b13, .ref b14, .ref b15, .ref b16, .ref b17, .int i18, .int i19, .int i20, .ref b21, .ref b22, .ref b23, .ref b24, .ref b25, .ref b26, .int i27, .ref b28, .ref b29, .ref b30, .ref b31, .ref b32, .ref b33, .ref b34, .ref b35, .ref b36, .int i37, .int i38, .int i39, .int i40, .int i41, .int i42, .int i43, .int i44, .int i45, .ref b46, .ref b47, .ref b48, .ref b49, .ref b50, .ref b51, .ref b52, .ref b53, .ref b54, .ref b55, .ref b56, .ref b57, .ref b58, .ref b59, .ref b60, .ref b61, .ref b62, .ref b63])), (b1, .inl (g.2.1 0, 400, .inl f5))]) X hW 1 rfl (vp_in_nI hlt (by decide)) ef5 rfl dX12_put_32 (fun H locs hW => ?_)
          refine lv_aload_n (pc := 33) hx hb dX12_put_33 rfl (lv_at hl 0 rfl) ?_
          refine lv_dup (pc := 34) hx hb dX12_put_34 rfl ?_
          refine r_get X hW 0 ciX12 2 rfl (by decide) m_1233 rfl rfl dX12_put_35 ?_
          refine lv_iconst (v := 1) (pc := 38) hx hb dX12_put_38 (by decide) ?_
          refine lv_iadd (pc := 39) hx hb dX12_put_39 ?_
          refine lv_topi (fun v6 ev6 => ?_)
          obtain rfl : v6 = nI (k + 1) := ev6.trans (nI_1 k)
          refine r_put (ws' := [(h0, .inr (12, [.int i0, .ref b1, .int (nI (k + 1)), .int i3, .int i4, .int i5, .ref b6, .ref b7, .ref b8, .ref b9, .ref b10, .ref b11, .ref b12, .ref b13, .ref b14, .ref b15, .ref b16, .ref b17, .int i18, .int i19, .int i20, .ref b21, .ref b22, .ref b23, .ref b24, .ref b25, .ref b26, .int i27, .ref b28, .ref b29, .ref b30, .ref b31, .ref b32, .ref b33, .ref b34, .ref b35, .ref b36, .int i37, .int i38, .int i39, .int i40, .int i41, .int i42, .int i43, .int i44, .int i45, .ref b46, .ref b47, .ref b48, .ref b49, .ref b50, .ref b51, .ref b52, .ref b53, .ref b54, .ref b55, .ref b56, .ref b57, .ref b58, .ref b59, .ref b60, .ref b61, .ref b62, .ref b63])), (b1, .inl (g.2.1 0, 400, .inl f5))]) X hW 0 ciX12 2 rfl (by decide) m_1233 rfl rfl rfl rfl (Nat.le_of_ble_eq_true rfl) rfl dX12_put_40 (fun H locs hW => ?_)
          refine lv_iinc (v := sh (j + 1)) (lv' := [(2, .int (sh (j + 1))), (0, .ref h0), (1, .int v)]) (pc := 43) hx hb dX12_put_43 hl (k := 2) rfl (sh_step j h4) (by decide) rfl (fun ls hl => ?_)
          refine lv_goto (tgt := 3) (pc := 46) hx hb dX12_put_46 rfl ?_
          exact ih1 (j + 1) (k + 1) f5 (by omega) (by omega) (by rw [cnt_s1 hz0]; omega) (by rw [ptb_s1 hz0, ← hfe, ← hk, ← nar_st h4]; exact upd_fn (by omega) ef5) _ _ _ hW (lv_sub hl [1, 2, 0] rfl)
        · have hz0 := c4
          refine lv_goto (tgt := 43) (pc := 17) hx hb dX12_put_17 rfl ?_
          refine lv_iinc (v := sh (j + 1)) (lv' := [(2, .int (sh (j + 1))), (0, .ref h0), (1, .int v)]) (pc := 43) hx hb dX12_put_43 hl (k := 2) rfl (sh_step j h4) (by decide) rfl (fun ls hl => ?_)
          refine lv_goto (tgt := 3) (pc := 46) hx hb dX12_put_46 rfl ?_
          exact ih1 (j + 1) k f (by omega) (by omega) (by rw [cnt_s0 hz0]; omega) (by rw [ptb_s0 hz0]; exact hfe) _ _ _ hW (lv_sub hl [1, 2, 0] rfl)
  exact loop1 5 0 n0 f0 (by decide) (by decide) rfl rfl _ _ _ hW (lv_sub hl [1, 2, 0] rfl)

set_option maxHeartbeats 4000000 in
set_option maxRecDepth 100000 in
theorem C_X12_feedP (l : Launch) (g : GG) (h0 b1 b6 b7 b8 b9 b10 b11 b12 b13 b14 b15 b16 b17 b21 b22 b23 b24 b25 b26 b28 b29 b30 b31 b32 b33 b34 b35 b36 b46 b47 b48 b49 b50 b51 b52 b53 b54 b55 b56 b57 b58 b59 b60 b61 b62 b63 : Nat) (i0 i3 i4 i5 i18 i19 i20 i27 i37 i38 i39 i40 i41 i42 i43 i44 i45 : Int32) (f0 : Nat → Int32) (n0 : Nat) (hn0 : n0 ≤ 400) (p0 p1 p2 p3 p4 : Int32) : MetI l g yX12_feed cX12_feed 6 (some .int) 1 0 0 [.ref h0, .int p0, .int p1, .int p2, .int p3, .int p4] [(h0, .inr (12, [.int i0, .ref b1, .int (nI n0), .int i3, .int i4, .int i5, .ref b6, .ref b7, .ref b8, .ref b9, .ref b10, .ref b11, .ref b12, .ref b13, .ref b14, .ref b15, .ref b16, .ref b17, .int i18, .int i19, .int i20, .ref b21, .ref b22, .ref b23, .ref b24, .ref b25, .ref b26, .int i27, .ref b28, .ref b29, .ref b30, .ref b31, .ref b32, .ref b33, .ref b34, .ref b35, .ref b36, .int i37, .int i38, .int i39, .int i40, .int i41, .int i42, .int i43, .int i44, .int i45, .ref b46, .ref b47, .ref b48, .ref b49, .ref b50, .ref b51, .ref b52, .ref b53, .ref b54, .ref b55, .ref b56, .ref b57, .ref b58, .ref b59, .ref b60, .ref b61, .ref b62, .ref b63])), (b1, .inl (g.2.1 0, 400, .inl f0))] (fun r u => r = fdr n0 (s5 p0 p1 p2 p3 p4) ∧ u = [(h0, .inr (12, [.int 0, .ref b1, .int (nI (fdn n0 (s5 p0 p1 p2 p3 p4))), .int i3, .int i4, .int i5, .ref b6, .ref b7, .ref b8, .ref b9, .ref b10, .ref b11, .ref b12, .ref b13, .ref b14, .ref b15, .ref b16, .ref b17, .int i18, .int i19, .int i20, .ref b21, .ref b22, .ref b23, .ref b24, .ref b25, .ref b26, .int i27, .ref b28, .ref b29, .ref b30, .ref b31, .ref b32, .ref b33, .ref b34, .ref b35, .ref b36, .int i37, .int i38, .int i39, .int i40, .int i41, .int i42, .int i43, .int i44, .int i45, .ref b46, .ref b47, .ref b48, .ref b49, .ref b50, .ref b51, .ref b52, .ref b53, .ref b54, .ref b55, .ref b56, .ref b57, .ref b58, .ref b59, .ref b60, .ref b61, .ref b62, .ref b63])), (b1, .inl (g.2.1 0, 400, .inl (pb5 f0 n0 p0 p1 p2 p3 p4)))]) := by
  refine MetI.of (own := RX12) rfl (by decide) (Nat.le_of_ble_eq_true rfl) ?_
  intro p e s m below meth c A ls args Q hQ X hr hin hW hl
  have hx := X.1
  have hb := X.2.1
  have hl : lv_has ls 6 [(0, .ref h0), (1, .int p0), (2, .int p1), (3, .int p2), (4, .int p3), (5, .int p4)] := hl
  have k0 := cnt_4 p0
  have k1 := cnt_4 p1
  have k2 := cnt_4 p2
  have k3 := cnt_4 p3
  have k4 := cnt_4 p4
  refine lv_aload_n (pc := 0) hx hb dX12_feed_0 rfl (lv_at hl 0 rfl) ?_
  refine lv_iconst (v := 0) (pc := 1) hx hb dX12_feed_1 (by decide) ?_
  refine r_put (ws' := [(h0, .inr (12, [.int 0, .ref b1, .int (nI n0), .int i3, .int i4, .int i5, .ref b6, .ref b7, .ref b8, .ref b9, .ref b10, .ref b11, .ref b12, .ref b13, .ref b14, .ref b15, .ref b16, .ref b17, .int i18, .int i19, .int i20, .ref b21, .ref b22, .ref b23, .ref b24, .ref b25, .ref b26, .int i27, .ref b28, .ref b29, .ref b30, .ref b31, .ref b32, .ref b33, .ref b34, .ref b35, .ref b36, .int i37, .int i38, .int i39, .int i40, .int i41, .int i42, .int i43, .int i44, .int i45, .ref b46, .ref b47, .ref b48, .ref b49, .ref b50, .ref b51, .ref b52, .ref b53, .ref b54, .ref b55, .ref b56, .ref b57, .ref b58, .ref b59, .ref b60, .ref b61, .ref b62, .ref b63])), (b1, .inl (g.2.1 0, 400, .inl f0))]) X hW 0 ciX12 0 rfl (by decide) m_1231 rfl rfl rfl rfl (Nat.le_of_ble_eq_true rfl) rfl dX12_feed_2 (fun H locs hW => ?_)
  refine lv_aload_n (pc := 5) hx hb dX12_feed_5 rfl (lv_at hl 0 rfl) ?_
  refine r_get X hW 0 ciX12 2 rfl (by decide) m_1233 rfl rfl dX12_feed_6 ?_
  refine lv_iload_n (pc := 9) hx hb dX12_feed_9 rfl (lv_at hl 1 rfl) ?_
  refine c_Si (pc := 10) (As := [.int p0]) (rest := [.int (nI n0)]) (wr := [(h0, .inr (12, [.int 0, .ref b1, .int (nI n0), .int i3, .int i4, .int i5, .ref b6, .ref b7, .ref b8, .ref b9, .ref b10, .ref b11, .ref b12, .ref b13, .ref b14, .ref b15, .ref b16, .ref b17, .int i18, .int i19, .int i20, .ref b21, .ref b22, .ref b23, .ref b24, .ref b25, .ref b26, .int i27, .ref b28, .ref b29, .ref b30, .ref b31, .ref b32, .ref b33, .ref b34, .ref b35, .ref b36, .int i37, .int i38, .int i39, .int i40, .int i41, .int i42, .int i43, .int i44, .int i45, .ref b46, .ref b47, .ref b48, .ref b49, .ref b50, .ref b51, .ref b52, .ref b53, .ref b54, .ref b55, .ref b56, .ref b57, .ref b58, .ref b59, .ref b60, .ref b61, .ref b62, .ref b63])), (b1, .inl (g.2.1 0, 400, .inl f0))]) X hW (C_X12_bytesIn l g p0) vX12_166 [] [0, 1] rfl rfl rfl rfl rfl rfl hl.1 rfl (Nat.le_of_ble_eq_true rfl) ⟨Nat.le_of_ble_eq_true rfl, Nat.le_of_ble_eq_true rfl⟩ ⟨Nat.le_of_ble_eq_true rfl, Nat.le_of_ble_eq_true rfl⟩ dX12_feed_10 (fun r1 u9 H locs hq hW => ?_)
  obtain ⟨rfl, rfl⟩ := hq
  have hW : WD g A s _ _ [(h0, .inr (12, [.int 0, .ref b1, .int (nI n0), .int i3, .int i4, .int i5, .ref b6, .ref b7, .ref b8, .ref b9, .ref b10, .ref b11, .ref b12, .ref b13, .ref b14, .ref b15, .ref b16, .ref b17, .int i18, .int i19, .int i20, .ref b21, .ref b22, .ref b23, .ref b24, .ref b25, .ref b26, .int i27, .ref b28, .ref b29, .ref b30, .ref b31, .ref b32, .ref b33, .ref b34, .ref b35, .ref b36, .int i37, .int i38, .int i39, .int i40, .int i41, .int i42, .int i43, .int i44, .int i45, .ref b46, .ref b47, .ref b48, .ref b49, .ref b50, .ref b51, .ref b52, .ref b53, .ref b54, .ref b55, .ref b56, .ref b57, .ref b58, .ref b59, .ref b60, .ref b61, .ref b62, .ref b63])), (b1, .inl (g.2.1 0, 400, .inl f0))] := hW
  refine lv_iadd (pc := 13) hx hb dX12_feed_13 ?_
  refine lv_topi (fun v2 ev2 => ?_)
  obtain rfl : v2 = nI (n0 + cnt p0 4) := ev2.trans (nI_add _ _)
  refine lv_iload_n (pc := 14) hx hb dX12_feed_14 rfl (lv_at hl 2 rfl) ?_
  refine c_Si (pc := 15) (As := [.int p1]) (rest := [.int (nI (n0 + cnt p0 4))]) (wr := [(h0, .inr (12, [.int 0, .ref b1, .int (nI n0), .int i3, .int i4, .int i5, .ref b6, .ref b7, .ref b8, .ref b9, .ref b10, .ref b11, .ref b12, .ref b13, .ref b14, .ref b15, .ref b16, .ref b17, .int i18, .int i19, .int i20, .ref b21, .ref b22, .ref b23, .ref b24, .ref b25, .ref b26, .int i27, .ref b28, .ref b29, .ref b30, .ref b31, .ref b32, .ref b33, .ref b34, .ref b35, .ref b36, .int i37, .int i38, .int i39, .int i40, .int i41, .int i42, .int i43, .int i44, .int i45, .ref b46, .ref b47, .ref b48, .ref b49, .ref b50, .ref b51, .ref b52, .ref b53, .ref b54, .ref b55, .ref b56, .ref b57, .ref b58, .ref b59, .ref b60, .ref b61, .ref b62, .ref b63])), (b1, .inl (g.2.1 0, 400, .inl f0))]) X hW (C_X12_bytesIn l g p1) vX12_166 [] [0, 1] rfl rfl rfl rfl rfl rfl hl.1 rfl (Nat.le_of_ble_eq_true rfl) ⟨Nat.le_of_ble_eq_true rfl, Nat.le_of_ble_eq_true rfl⟩ ⟨Nat.le_of_ble_eq_true rfl, Nat.le_of_ble_eq_true rfl⟩ dX12_feed_15 (fun r3 u9 H locs hq hW => ?_)
  obtain ⟨rfl, rfl⟩ := hq
  have hW : WD g A s _ _ [(h0, .inr (12, [.int 0, .ref b1, .int (nI n0), .int i3, .int i4, .int i5, .ref b6, .ref b7, .ref b8, .ref b9, .ref b10, .ref b11, .ref b12, .ref b13, .ref b14, .ref b15, .ref b16, .ref b17, .int i18, .int i19, .int i20, .ref b21, .ref b22, .ref b23, .ref b24, .ref b25, .ref b26, .int i27, .ref b28, .ref b29, .ref b30, .ref b31, .ref b32, .ref b33, .ref b34, .ref b35, .ref b36, .int i37, .int i38, .int i39, .int i40, .int i41, .int i42, .int i43, .int i44, .int i45, .ref b46, .ref b47, .ref b48, .ref b49, .ref b50, .ref b51, .ref b52, .ref b53, .ref b54, .ref b55, .ref b56, .ref b57, .ref b58, .ref b59, .ref b60, .ref b61, .ref b62, .ref b63])), (b1, .inl (g.2.1 0, 400, .inl f0))] := hW
  refine lv_iadd (pc := 18) hx hb dX12_feed_18 ?_
  refine lv_topi (fun v4 ev4 => ?_)
  obtain rfl : v4 = nI (n0 + cnt p0 4 + cnt p1 4) := ev4.trans (nI_add _ _)
  refine lv_iload_n (pc := 19) hx hb dX12_feed_19 rfl (lv_at hl 3 rfl) ?_
  refine c_Si (pc := 20) (As := [.int p2]) (rest := [.int (nI (n0 + cnt p0 4 + cnt p1 4))]) (wr := [(h0, .inr (12, [.int 0, .ref b1, .int (nI n0), .int i3, .int i4, .int i5, .ref b6, .ref b7, .ref b8, .ref b9, .ref b10, .ref b11, .ref b12, .ref b13, .ref b14, .ref b15, .ref b16, .ref b17, .int i18, .int i19, .int i20, .ref b21, .ref b22, .ref b23, .ref b24, .ref b25, .ref b26, .int i27, .ref b28, .ref b29, .ref b30, .ref b31, .ref b32, .ref b33, .ref b34, .ref b35, .ref b36, .int i37, .int i38, .int i39, .int i40, .int i41, .int i42, .int i43, .int i44, .int i45, .ref b46, .ref b47, .ref b48, .ref b49, .ref b50, .ref b51, .ref b52, .ref b53, .ref b54, .ref b55, .ref b56, .ref b57, .ref b58, .ref b59, .ref b60, .ref b61, .ref b62, .ref b63])), (b1, .inl (g.2.1 0, 400, .inl f0))]) X hW (C_X12_bytesIn l g p2) vX12_166 [] [0, 1] rfl rfl rfl rfl rfl rfl hl.1 rfl (Nat.le_of_ble_eq_true rfl) ⟨Nat.le_of_ble_eq_true rfl, Nat.le_of_ble_eq_true rfl⟩ ⟨Nat.le_of_ble_eq_true rfl, Nat.le_of_ble_eq_true rfl⟩ dX12_feed_20 (fun r5 u9 H locs hq hW => ?_)
  obtain ⟨rfl, rfl⟩ := hq
  have hW : WD g A s _ _ [(h0, .inr (12, [.int 0, .ref b1, .int (nI n0), .int i3, .int i4, .int i5, .ref b6, .ref b7, .ref b8, .ref b9, .ref b10, .ref b11, .ref b12, .ref b13, .ref b14, .ref b15, .ref b16, .ref b17, .int i18, .int i19, .int i20, .ref b21, .ref b22, .ref b23, .ref b24, .ref b25, .ref b26, .int i27, .ref b28, .ref b29, .ref b30, .ref b31, .ref b32, .ref b33, .ref b34, .ref b35, .ref b36, .int i37, .int i38, .int i39, .int i40, .int i41, .int i42, .int i43, .int i44, .int i45, .ref b46, .ref b47, .ref b48, .ref b49, .ref b50, .ref b51, .ref b52, .ref b53, .ref b54, .ref b55, .ref b56, .ref b57, .ref b58, .ref b59, .ref b60, .ref b61, .ref b62, .ref b63])), (b1, .inl (g.2.1 0, 400, .inl f0))] := hW
  refine lv_iadd (pc := 23) hx hb dX12_feed_23 ?_
  refine lv_topi (fun v6 ev6 => ?_)
  obtain rfl : v6 = nI (n0 + cnt p0 4 + cnt p1 4 + cnt p2 4) := ev6.trans (nI_add _ _)
  refine lv_iload (pc := 24) hx hb dX12_feed_24 (lv_at hl 4 rfl) ?_
  refine c_Si (pc := 26) (As := [.int p3]) (rest := [.int (nI (n0 + cnt p0 4 + cnt p1 4 + cnt p2 4))]) (wr := [(h0, .inr (12, [.int 0, .ref b1, .int (nI n0), .int i3, .int i4, .int i5, .ref b6, .ref b7, .ref b8, .ref b9, .ref b10, .ref b11, .ref b12, .ref b13, .ref b14, .ref b15, .ref b16, .ref b17, .int i18, .int i19, .int i20, .ref b21, .ref b22, .ref b23, .ref b24, .ref b25, .ref b26, .int i27, .ref b28, .ref b29, .ref b30, .ref b31, .ref b32, .ref b33, .ref b34, .ref b35, .ref b36, .int i37, .int i38, .int i39, .int i40, .int i41, .int i42, .int i43, .int i44, .int i45, .ref b46, .ref b47, .ref b48, .ref b49, .ref b50, .ref b51, .ref b52, .ref b53, .ref b54, .ref b55, .ref b56, .ref b57, .ref b58, .ref b59, .ref b60, .ref b61, .ref b62, .ref b63])), (b1, .inl (g.2.1 0, 400, .inl f0))]) X hW (C_X12_bytesIn l g p3) vX12_166 [] [0, 1] rfl rfl rfl rfl rfl rfl hl.1 rfl (Nat.le_of_ble_eq_true rfl) ⟨Nat.le_of_ble_eq_true rfl, Nat.le_of_ble_eq_true rfl⟩ ⟨Nat.le_of_ble_eq_true rfl, Nat.le_of_ble_eq_true rfl⟩ dX12_feed_26 (fun r7 u9 H locs hq hW => ?_)
  obtain ⟨rfl, rfl⟩ := hq
  have hW : WD g A s _ _ [(h0, .inr (12, [.int 0, .ref b1, .int (nI n0), .int i3, .int i4, .int i5, .ref b6, .ref b7, .ref b8, .ref b9, .ref b10, .ref b11, .ref b12, .ref b13, .ref b14, .ref b15, .ref b16, .ref b17, .int i18, .int i19, .int i20, .ref b21, .ref b22, .ref b23, .ref b24, .ref b25, .ref b26, .int i27, .ref b28, .ref b29, .ref b30, .ref b31, .ref b32, .ref b33, .ref b34, .ref b35, .ref b36, .int i37, .int i38, .int i39, .int i40, .int i41, .int i42, .int i43, .int i44, .int i45, .ref b46, .ref b47, .ref b48, .ref b49, .ref b50, .ref b51, .ref b52, .ref b53, .ref b54, .ref b55, .ref b56, .ref b57, .ref b58, .ref b59, .ref b60, .ref b61, .ref b62, .ref b63])), (b1, .inl (g.2.1 0, 400, .inl f0))] := hW
  refine lv_iadd (pc := 29) hx hb dX12_feed_29 ?_
  refine lv_topi (fun v8 ev8 => ?_)
  obtain rfl : v8 = nI (n0 + cnt p0 4 + cnt p1 4 + cnt p2 4 + cnt p3 4) := ev8.trans (nI_add _ _)
  refine lv_iload (pc := 30) hx hb dX12_feed_30 (lv_at hl 5 rfl) ?_
  refine c_Si (pc := 32) (As := [.int p4]) (rest := [.int (nI (n0 + cnt p0 4 + cnt p1 4 + cnt p2 4 + cnt p3 4))]) (wr := [(h0, .inr (12, [.int 0, .ref b1, .int (nI n0), .int i3, .int i4, .int i5, .ref b6, .ref b7, .ref b8, .ref b9, .ref b10, .ref b11, .ref b12, .ref b13, .ref b14, .ref b15, .ref b16, .ref b17, .int i18, .int i19, .int i20, .ref b21, .ref b22, .ref b23, .ref b24, .ref b25, .ref b26, .int i27, .ref b28, .ref b29, .ref b30, .ref b31, .ref b32, .ref b33, .ref b34, .ref b35, .ref b36, .int i37, .int i38, .int i39, .int i40, .int i41, .int i42, .int i43, .int i44, .int i45, .ref b46, .ref b47, .ref b48, .ref b49, .ref b50, .ref b51, .ref b52, .ref b53, .ref b54, .ref b55, .ref b56, .ref b57, .ref b58, .ref b59, .ref b60, .ref b61, .ref b62, .ref b63])), (b1, .inl (g.2.1 0, 400, .inl f0))]) X hW (C_X12_bytesIn l g p4) vX12_166 [] [0, 1] rfl rfl rfl rfl rfl rfl hl.1 rfl (Nat.le_of_ble_eq_true rfl) ⟨Nat.le_of_ble_eq_true rfl, Nat.le_of_ble_eq_true rfl⟩ ⟨Nat.le_of_ble_eq_true rfl, Nat.le_of_ble_eq_true rfl⟩ dX12_feed_32 (fun r9 u9 H locs hq hW => ?_)
  obtain ⟨rfl, rfl⟩ := hq
  have hW : WD g A s _ _ [(h0, .inr (12, [.int 0, .ref b1, .int (nI n0), .int i3, .int i4, .int i5, .ref b6, .ref b7, .ref b8, .ref b9, .ref b10, .ref b11, .ref b12, .ref b13, .ref b14, .ref b15, .ref b16, .ref b17, .int i18, .int i19, .int i20, .ref b21, .ref b22, .ref b23, .ref b24, .ref b25, .ref b26, .int i27, .ref b28, .ref b29, .ref b30, .ref b31, .ref b32, .ref b33, .ref b34, .ref b35, .ref b36, .int i37, .int i38, .int i39, .int i40, .int i41, .int i42, .int i43, .int i44, .int i45, .ref b46, .ref b47, .ref b48, .ref b49, .ref b50, .ref b51, .ref b52, .ref b53, .ref b54, .ref b55, .ref b56, .ref b57, .ref b58, .ref b59, .ref b60, .ref b61, .ref b62, .ref b63])), (b1, .inl (g.2.1 0, 400, .inl f0))] := hW
  refine lv_iadd (pc := 35) hx hb dX12_feed_35 ?_
  refine lv_topi (fun v10 ev10 => ?_)
  obtain rfl : v10 = nI (n0 + cnt p0 4 + cnt p1 4 + cnt p2 4 + cnt p3 4 + cnt p4 4) := ev10.trans (nI_add _ _)
  refine lv_sipush (v := 400) (pc := 36) hx hb dX12_feed_36 (by decide) ?_
  refine lv_icmp_le (tgt := 44) (pc := 39) hx hb dX12_feed_39 rfl (fun c11 => ?_) (fun c11 => ?_)
  · have hfit : n0 + (cnt p0 4 + cnt p1 4 + cnt p2 4 + cnt p3 4 + cnt p4 4) ≤ 400 := by have := (nI_leI (a := n0 + cnt p0 4 + cnt p1 4 + cnt p2 4 + cnt p3 4 + cnt p4 4) (b := 400) (by omega) (by decide)).mp c11; omega
    refine lv_aload_n (pc := 44) hx hb dX12_feed_44 rfl (lv_at hl 0 rfl) ?_
    refine lv_iload_n (pc := 45) hx hb dX12_feed_45 rfl (lv_at hl 1 rfl) ?_
    refine c_Vv (pc := 46) (As := [.int p0]) (rest := []) (wr := []) X hW 0 ciX12 rfl (C_X12_putP l g h0 b1 b6 b7 b8 b9 b10 b11 b12 b13 b14 b15 b16 b17 b21 b22 b23 b24 b25 b26 b28 b29 b30 b31 b32 b33 b34 b35 b36 b46 b47 b48 b49 b50 b51 b52 b53 b54 b55 b56 b57 b58 b59 b60 b61 b62 b63 0 i3 i4 i5 i18 i19 i20 i27 i37 i38 i39 i40 i41 i42 i43 i44 i45 f0 n0 p0 (by omega)) vX12_170 [0, 1] [] rfl rfl rfl rfl rfl rfl hl.1 rfl (Nat.le_of_ble_eq_true rfl) ⟨Nat.le_of_ble_eq_true rfl, Nat.le_of_ble_eq_true rfl⟩ ⟨Nat.le_of_ble_eq_true rfl, Nat.le_of_ble_eq_true rfl⟩ dX12_feed_46 (fun u9 H locs hq hW => ?_)
    obtain rfl := hq
    have hW : WD g A s _ _ [(h0, .inr (12, [.int 0, .ref b1, .int (nI (n0 + cnt p0 4)), .int i3, .int i4, .int i5, .ref b6, .ref b7, .ref b8, .ref b9, .ref b10, .ref b11, .ref b12, .ref b13, .ref b14, .ref b15, .ref b16, .ref b17, .int i18, .int i19, .int i20, .ref b21, .ref b22, .ref b23, .ref b24, .ref b25, .ref b26, .int i27, .ref b28, .ref b29, .ref b30, .ref b31, .ref b32, .ref b33, .ref b34, .ref b35, .ref b36, .int i37, .int i38, .int i39, .int i40, .int i41, .int i42, .int i43, .int i44, .int i45, .ref b46, .ref b47, .ref b48, .ref b49, .ref b50, .ref b51, .ref b52, .ref b53, .ref b54, .ref b55, .ref b56, .ref b57, .ref b58, .ref b59, .ref b60, .ref b61, .ref b62, .ref b63])), (b1, .inl (g.2.1 0, 400, .inl (ptb p0 4 f0 n0)))] := hW
    refine lv_aload_n (pc := 49) hx hb dX12_feed_49 rfl (lv_at hl 0 rfl) ?_
    refine lv_iload_n (pc := 50) hx hb dX12_feed_50 rfl (lv_at hl 2 rfl) ?_
    refine c_Vv (pc := 51) (As := [.int p1]) (rest := []) (wr := []) X hW 0 ciX12 rfl (C_X12_putP l g h0 b1 b6 b7 b8 b9 b10 b11 b12 b13 b14 b15 b16 b17 b21 b22 b23 b24 b25 b26 b28 b29 b30 b31 b32 b33 b34 b35 b36 b46 b47 b48 b49 b50 b51 b52 b53 b54 b55 b56 b57 b58 b59 b60 b61 b62 b63 0 i3 i4 i5 i18 i19 i20 i27 i37 i38 i39 i40 i41 i42 i43 i44 i45 (ptb p0 4 f0 n0) (n0 + cnt p0 4) p1 (by omega)) vX12_170 [0, 1] [] rfl rfl rfl rfl rfl rfl hl.1 rfl (Nat.le_of_ble_eq_true rfl) ⟨Nat.le_of_ble_eq_true rfl, Nat.le_of_ble_eq_true rfl⟩ ⟨Nat.le_of_ble_eq_true rfl, Nat.le_of_ble_eq_true rfl⟩ dX12_feed_51 (fun u9 H locs hq hW => ?_)
    obtain rfl := hq
    have hW : WD g A s _ _ [(h0, .inr (12, [.int 0, .ref b1, .int (nI ((n0 + cnt p0 4) + cnt p1 4)), .int i3, .int i4, .int i5, .ref b6, .ref b7, .ref b8, .ref b9, .ref b10, .ref b11, .ref b12, .ref b13, .ref b14, .ref b15, .ref b16, .ref b17, .int i18, .int i19, .int i20, .ref b21, .ref b22, .ref b23, .ref b24, .ref b25, .ref b26, .int i27, .ref b28, .ref b29, .ref b30, .ref b31, .ref b32, .ref b33, .ref b34, .ref b35, .ref b36, .int i37, .int i38, .int i39, .int i40, .int i41, .int i42, .int i43, .int i44, .int i45, .ref b46, .ref b47, .ref b48, .ref b49, .ref b50, .ref b51, .ref b52, .ref b53, .ref b54, .ref b55, .ref b56, .ref b57, .ref b58, .ref b59, .ref b60, .ref b61, .ref b62, .ref b63])), (b1, .inl (g.2.1 0, 400, .inl (ptb p1 4 (ptb p0 4 f0 n0) (n0 + cnt p0 4))))] := hW
    refine lv_aload_n (pc := 54) hx hb dX12_feed_54 rfl (lv_at hl 0 rfl) ?_
    refine lv_iload_n (pc := 55) hx hb dX12_feed_55 rfl (lv_at hl 3 rfl) ?_
    refine c_Vv (pc := 56) (As := [.int p2]) (rest := []) (wr := []) X hW 0 ciX12 rfl (C_X12_putP l g h0 b1 b6 b7 b8 b9 b10 b11 b12 b13 b14 b15 b16 b17 b21 b22 b23 b24 b25 b26 b28 b29 b30 b31 b32 b33 b34 b35 b36 b46 b47 b48 b49 b50 b51 b52 b53 b54 b55 b56 b57 b58 b59 b60 b61 b62 b63 0 i3 i4 i5 i18 i19 i20 i27 i37 i38 i39 i40 i41 i42 i43 i44 i45 (ptb p1 4 (ptb p0 4 f0 n0) (n0 + cnt p0 4)) ((n0 + cnt p0 4) + cnt p1 4) p2 (by omega)) vX12_170 [0, 1] [] rfl rfl rfl rfl rfl rfl hl.1 rfl (Nat.le_of_ble_eq_true rfl) ⟨Nat.le_of_ble_eq_true rfl, Nat.le_of_ble_eq_true rfl⟩ ⟨Nat.le_of_ble_eq_true rfl, Nat.le_of_ble_eq_true rfl⟩ dX12_feed_56 (fun u9 H locs hq hW => ?_)
    obtain rfl := hq
    have hW : WD g A s _ _ [(h0, .inr (12, [.int 0, .ref b1, .int (nI (((n0 + cnt p0 4) + cnt p1 4) + cnt p2 4)), .int i3, .int i4, .int i5, .ref b6, .ref b7, .ref b8, .ref b9, .ref b10, .ref b11, .ref b12, .ref b13, .ref b14, .ref b15, .ref b16, .ref b17, .int i18, .int i19, .int i20, .ref b21, .ref b22, .ref b23, .ref b24, .ref b25, .ref b26, .int i27, .ref b28, .ref b29, .ref b30, .ref b31, .ref b32, .ref b33, .ref b34, .ref b35, .ref b36, .int i37, .int i38, .int i39, .int i40, .int i41, .int i42, .int i43, .int i44, .int i45, .ref b46, .ref b47, .ref b48, .ref b49, .ref b50, .ref b51, .ref b52, .ref b53, .ref b54, .ref b55, .ref b56, .ref b57, .ref b58, .ref b59, .ref b60, .ref b61, .ref b62, .ref b63])), (b1, .inl (g.2.1 0, 400, .inl (ptb p2 4 (ptb p1 4 (ptb p0 4 f0 n0) (n0 + cnt p0 4)) ((n0 + cnt p0 4) + cnt p1 4))))] := hW
    refine lv_aload_n (pc := 59) hx hb dX12_feed_59 rfl (lv_at hl 0 rfl) ?_
    refine lv_iload (pc := 60) hx hb dX12_feed_60 (lv_at hl 4 rfl) ?_
    refine c_Vv (pc := 62) (As := [.int p3]) (rest := []) (wr := []) X hW 0 ciX12 rfl (C_X12_putP l g h0 b1 b6 b7 b8 b9 b10 b11 b12 b13 b14 b15 b16 b17 b21 b22 b23 b24 b25 b26 b28 b29 b30 b31 b32 b33 b34 b35 b36 b46 b47 b48 b49 b50 b51 b52 b53 b54 b55 b56 b57 b58 b59 b60 b61 b62 b63 0 i3 i4 i5 i18 i19 i20 i27 i37 i38 i39 i40 i41 i42 i43 i44 i45 (ptb p2 4 (ptb p1 4 (ptb p0 4 f0 n0) (n0 + cnt p0 4)) ((n0 + cnt p0 4) + cnt p1 4)) (((n0 + cnt p0 4) + cnt p1 4) + cnt p2 4) p3 (by omega)) vX12_170 [0, 1] [] rfl rfl rfl rfl rfl rfl hl.1 rfl (Nat.le_of_ble_eq_true rfl) ⟨Nat.le_of_ble_eq_true rfl, Nat.le_of_ble_eq_true rfl⟩ ⟨Nat.le_of_ble_eq_true rfl, Nat.le_of_ble_eq_true rfl⟩ dX12_feed_62 (fun u9 H locs hq hW => ?_)
    obtain rfl := hq
    have hW : WD g A s _ _ [(h0, .inr (12, [.int 0, .ref b1, .int (nI ((((n0 + cnt p0 4) + cnt p1 4) + cnt p2 4) + cnt p3 4)), .int i3, .int i4, .int i5, .ref b6, .ref b7, .ref b8, .ref b9, .ref b10, .ref b11, .ref b12, .ref b13, .ref b14, .ref b15, .ref b16, .ref b17, .int i18, .int i19, .int i20, .ref b21, .ref b22, .ref b23, .ref b24, .ref b25, .ref b26, .int i27, .ref b28, .ref b29, .ref b30, .ref b31, .ref b32, .ref b33, .ref b34, .ref b35, .ref b36, .int i37, .int i38, .int i39, .int i40, .int i41, .int i42, .int i43, .int i44, .int i45, .ref b46, .ref b47, .ref b48, .ref b49, .ref b50, .ref b51, .ref b52, .ref b53, .ref b54, .ref b55, .ref b56, .ref b57, .ref b58, .ref b59, .ref b60, .ref b61, .ref b62, .ref b63])), (b1, .inl (g.2.1 0, 400, .inl (ptb p3 4 (ptb p2 4 (ptb p1 4 (ptb p0 4 f0 n0) (n0 + cnt p0 4)) ((n0 + cnt p0 4) + cnt p1 4)) (((n0 + cnt p0 4) + cnt p1 4) + cnt p2 4))))] := hW
    refine lv_aload_n (pc := 65) hx hb dX12_feed_65 rfl (lv_at hl 0 rfl) ?_
    refine lv_iload (pc := 66) hx hb dX12_feed_66 (lv_at hl 5 rfl) ?_
    refine c_Vv (pc := 68) (As := [.int p4]) (rest := []) (wr := []) X hW 0 ciX12 rfl (C_X12_putP l g h0 b1 b6 b7 b8 b9 b10 b11 b12 b13 b14 b15 b16 b17 b21 b22 b23 b24 b25 b26 b28 b29 b30 b31 b32 b33 b34 b35 b36 b46 b47 b48 b49 b50 b51 b52 b53 b54 b55 b56 b57 b58 b59 b60 b61 b62 b63 0 i3 i4 i5 i18 i19 i20 i27 i37 i38 i39 i40 i41 i42 i43 i44 i45 (ptb p3 4 (ptb p2 4 (ptb p1 4 (ptb p0 4 f0 n0) (n0 + cnt p0 4)) ((n0 + cnt p0 4) + cnt p1 4)) (((n0 + cnt p0 4) + cnt p1 4) + cnt p2 4)) ((((n0 + cnt p0 4) + cnt p1 4) + cnt p2 4) + cnt p3 4) p4 (by omega)) vX12_170 [0, 1] [] rfl rfl rfl rfl rfl rfl hl.1 rfl (Nat.le_of_ble_eq_true rfl) ⟨Nat.le_of_ble_eq_true rfl, Nat.le_of_ble_eq_true rfl⟩ ⟨Nat.le_of_ble_eq_true rfl, Nat.le_of_ble_eq_true rfl⟩ dX12_feed_68 (fun u9 H locs hq hW => ?_)
    obtain rfl := hq
    have hW : WD g A s _ _ [(h0, .inr (12, [.int 0, .ref b1, .int (nI (((((n0 + cnt p0 4) + cnt p1 4) + cnt p2 4) + cnt p3 4) + cnt p4 4)), .int i3, .int i4, .int i5, .ref b6, .ref b7, .ref b8, .ref b9, .ref b10, .ref b11, .ref b12, .ref b13, .ref b14, .ref b15, .ref b16, .ref b17, .int i18, .int i19, .int i20, .ref b21, .ref b22, .ref b23, .ref b24, .ref b25, .ref b26, .int i27, .ref b28, .ref b29, .ref b30, .ref b31, .ref b32, .ref b33, .ref b34, .ref b35, .ref b36, .int i37, .int i38, .int i39, .int i40, .int i41, .int i42, .int i43, .int i44, .int i45, .ref b46, .ref b47, .ref b48, .ref b49, .ref b50, .ref b51, .ref b52, .ref b53, .ref b54, .ref b55, .ref b56, .ref b57, .ref b58, .ref b59, .ref b60, .ref b61, .ref b62, .ref b63])), (b1, .inl (g.2.1 0, 400, .inl (ptb p4 4 (ptb p3 4 (ptb p2 4 (ptb p1 4 (ptb p0 4 f0 n0) (n0 + cnt p0 4)) ((n0 + cnt p0 4) + cnt p1 4)) (((n0 + cnt p0 4) + cnt p1 4) + cnt p2 4)) ((((n0 + cnt p0 4) + cnt p1 4) + cnt p2 4) + cnt p3 4))))] := hW
    refine lv_aload_n (pc := 71) hx hb dX12_feed_71 rfl (lv_at hl 0 rfl) ?_
    refine r_get X hW 0 ciX12 2 rfl (by decide) m_1233 rfl rfl dX12_feed_72 ?_
    exact e_i X hQ hr hW (u := [(h0, .inr (12, [.int 0, .ref b1, .int (nI (((((n0 + cnt p0 4) + cnt p1 4) + cnt p2 4) + cnt p3 4) + cnt p4 4)), .int i3, .int i4, .int i5, .ref b6, .ref b7, .ref b8, .ref b9, .ref b10, .ref b11, .ref b12, .ref b13, .ref b14, .ref b15, .ref b16, .ref b17, .int i18, .int i19, .int i20, .ref b21, .ref b22, .ref b23, .ref b24, .ref b25, .ref b26, .int i27, .ref b28, .ref b29, .ref b30, .ref b31, .ref b32, .ref b33, .ref b34, .ref b35, .ref b36, .int i37, .int i38, .int i39, .int i40, .int i41, .int i42, .int i43, .int i44, .int i45, .ref b46, .ref b47, .ref b48, .ref b49, .ref b50, .ref b51, .ref b52, .ref b53, .ref b54, .ref b55, .ref b56, .ref b57, .ref b58, .ref b59, .ref b60, .ref b61, .ref b62, .ref b63])), (b1, .inl (g.2.1 0, 400, .inl (ptb p4 4 (ptb p3 4 (ptb p2 4 (ptb p1 4 (ptb p0 4 f0 n0) (n0 + cnt p0 4)) ((n0 + cnt p0 4) + cnt p1 4)) (((n0 + cnt p0 4) + cnt p1 4) + cnt p2 4)) ((((n0 + cnt p0 4) + cnt p1 4) + cnt p2 4) + cnt p3 4))))]) [0, 1] rfl rfl (⟨by rw [show fdr n0 (s5 p0 p1 p2 p3 p4) = nI (n0 + (s5 p0 p1 p2 p3 p4)) from if_pos hfit]; simp only [s5, Nat.add_assoc], by rw [show fdn n0 (s5 p0 p1 p2 p3 p4) = n0 + (s5 p0 p1 p2 p3 p4) from if_pos hfit, show pb5 f0 n0 p0 p1 p2 p3 p4 = (ptb p4 4 (ptb p3 4 (ptb p2 4 (ptb p1 4 (ptb p0 4 f0 n0) (n0 + cnt p0 4)) (n0 + cnt p0 4 + cnt p1 4)) (n0 + cnt p0 4 + cnt p1 4 + cnt p2 4)) (n0 + cnt p0 4 + cnt p1 4 + cnt p2 4 + cnt p3 4)) from if_pos hfit]; simp only [s5, Nat.add_assoc]⟩) ⟨Nat.le_of_ble_eq_true rfl, Nat.le_of_ble_eq_true rfl⟩ dX12_feed_75
  · have hfit : ¬ n0 + (cnt p0 4 + cnt p1 4 + cnt p2 4 + cnt p3 4 + cnt p4 4) ≤ 400 := fun q => c11 ((nI_leI (a := n0 + cnt p0 4 + cnt p1 4 + cnt p2 4 + cnt p3 4 + cnt p4 4) (b := 400) (by omega) (by decide)).mpr (by omega))
    refine lv_iconst (v := (-1)) (pc := 42) hx hb dX12_feed_42 (by decide) ?_
    exact e_i X hQ hr hW (u := [(h0, .inr (12, [.int 0, .ref b1, .int (nI n0), .int i3, .int i4, .int i5, .ref b6, .ref b7, .ref b8, .ref b9, .ref b10, .ref b11, .ref b12, .ref b13, .ref b14, .ref b15, .ref b16, .ref b17, .int i18, .int i19, .int i20, .ref b21, .ref b22, .ref b23, .ref b24, .ref b25, .ref b26, .int i27, .ref b28, .ref b29, .ref b30, .ref b31, .ref b32, .ref b33, .ref b34, .ref b35, .ref b36, .int i37, .int i38, .int i39, .int i40, .int i41, .int i42, .int i43, .int i44, .int i45, .ref b46, .ref b47, .ref b48, .ref b49, .ref b50, .ref b51, .ref b52, .ref b53, .ref b54, .ref b55, .ref b56, .ref b57, .ref b58, .ref b59, .ref b60, .ref b61, .ref b62, .ref b63])), (b1, .inl (g.2.1 0, 400, .inl f0))]) [0, 1] rfl rfl (⟨(if_neg hfit).symm, by rw [show fdn n0 (s5 p0 p1 p2 p3 p4) = n0 from if_neg hfit, show pb5 f0 n0 p0 p1 p2 p3 p4 = f0 from if_neg hfit]⟩) ⟨Nat.le_of_ble_eq_true rfl, Nat.le_of_ble_eq_true rfl⟩ dX12_feed_43

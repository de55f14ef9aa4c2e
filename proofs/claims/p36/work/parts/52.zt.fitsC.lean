theorem dX10_taleOf_0 : decode cX10_taleOf 0 = .ok (.aload_n 0, 1) := DX10_taleOf _ _ _ rfl
theorem dX10_taleOf_1 : decode cX10_taleOf 1 = .ok (.getfield 42, 3) := DX10_taleOf _ _ _ rfl
theorem dX10_taleOf_4 : decode cX10_taleOf 4 = .ok (.iload_n 1, 1) := DX10_taleOf _ _ _ rfl
theorem dX10_taleOf_5 : decode cX10_taleOf 5 = .ok (.bipush 7, 2) := DX10_taleOf _ _ _ rfl
theorem dX10_taleOf_7 : decode cX10_taleOf 7 = .ok (.imul, 1) := DX10_taleOf _ _ _ rfl
theorem dX10_taleOf_8 : decode cX10_taleOf 8 = .ok (.iload_n 2, 1) := DX10_taleOf _ _ _ rfl
theorem dX10_taleOf_9 : decode cX10_taleOf 9 = .ok (.iadd, 1) := DX10_taleOf _ _ _ rfl
theorem dX10_taleOf_10 : decode cX10_taleOf 10 = .ok (.iaload, 1) := DX10_taleOf _ _ _ rfl
theorem dX10_taleOf_11 : decode cX10_taleOf 11 = .ok (.ireturn, 1) := DX10_taleOf _ _ _ rfl
theorem dX10_whoseTaleIs_0 : decode cX10_whoseTaleIs 0 = .ok (.iconst 0, 1) := DX10_whoseTaleIs _ _ _ rfl
theorem dX10_whoseTaleIs_1 : decode cX10_whoseTaleIs 1 = .ok (.istore_n 3, 1) := DX10_whoseTaleIs _ _ _ rfl
theorem dX10_whoseTaleIs_2 : decode cX10_whoseTaleIs 2 = .ok (.iconst 0, 1) := DX10_whoseTaleIs _ _ _ rfl
theorem dX10_whoseTaleIs_3 : decode cX10_whoseTaleIs 3 = .ok (.istore 4, 2) := DX10_whoseTaleIs _ _ _ rfl
theorem dX10_whoseTaleIs_5 : decode cX10_whoseTaleIs 5 = .ok (.iload 4, 2) := DX10_whoseTaleIs _ _ _ rfl
theorem dX10_whoseTaleIs_7 : decode cX10_whoseTaleIs 7 = .ok (.aload_n 0, 1) := DX10_whoseTaleIs _ _ _ rfl
theorem dX10_whoseTaleIs_8 : decode cX10_whoseTaleIs 8 = .ok (.getfield 54, 3) := DX10_whoseTaleIs _ _ _ rfl
theorem dX10_whoseTaleIs_11 : decode cX10_whoseTaleIs 11 = .ok (.if_icmp .ge 27, 3) := DX10_whoseTaleIs _ _ _ rfl
theorem dX10_whoseTaleIs_38 : decode cX10_whoseTaleIs 38 = .ok (.iload_n 3, 1) := DX10_whoseTaleIs _ _ _ rfl
theorem dX10_whoseTaleIs_39 : decode cX10_whoseTaleIs 39 = .ok (.ireturn, 1) := DX10_whoseTaleIs _ _ _ rfl
theorem dX10_whoseTaleIs_14 : decode cX10_whoseTaleIs 14 = .ok (.aload_n 0, 1) := DX10_whoseTaleIs _ _ _ rfl
theorem dX10_whoseTaleIs_15 : decode cX10_whoseTaleIs 15 = .ok (.iload_n 1, 1) := DX10_whoseTaleIs _ _ _ rfl
theorem dX10_whoseTaleIs_16 : decode cX10_whoseTaleIs 16 = .ok (.iload 4, 2) := DX10_whoseTaleIs _ _ _ rfl
theorem dX10_whoseTaleIs_18 : decode cX10_whoseTaleIs 18 = .ok (.invokevirtual 115, 3) := DX10_whoseTaleIs _ _ _ rfl
theorem dX10_whoseTaleIs_21 : decode cX10_whoseTaleIs 21 = .ok (.iload_n 2, 1) := DX10_whoseTaleIs _ _ _ rfl
theorem dX10_whoseTaleIs_22 : decode cX10_whoseTaleIs 22 = .ok (.if_icmp .ne 10, 3) := DX10_whoseTaleIs _ _ _ rfl
theorem dX10_whoseTaleIs_32 : decode cX10_whoseTaleIs 32 = .ok (.iinc 4 1, 3) := DX10_whoseTaleIs _ _ _ rfl
theorem dX10_whoseTaleIs_35 : decode cX10_whoseTaleIs 35 = .ok (.goto (-30), 3) := DX10_whoseTaleIs _ _ _ rfl
theorem dX10_whoseTaleIs_25 : decode cX10_whoseTaleIs 25 = .ok (.iload_n 3, 1) := DX10_whoseTaleIs _ _ _ rfl
theorem dX10_whoseTaleIs_26 : decode cX10_whoseTaleIs 26 = .ok (.iconst 1, 1) := DX10_whoseTaleIs _ _ _ rfl
theorem dX10_whoseTaleIs_27 : decode cX10_whoseTaleIs 27 = .ok (.iload 4, 2) := DX10_whoseTaleIs _ _ _ rfl
theorem dX10_whoseTaleIs_29 : decode cX10_whoseTaleIs 29 = .ok (.ishl, 1) := DX10_whoseTaleIs _ _ _ rfl
theorem dX10_whoseTaleIs_30 : decode cX10_whoseTaleIs 30 = .ok (.ior, 1) := DX10_whoseTaleIs _ _ _ rfl
theorem dX10_whoseTaleIs_31 : decode cX10_whoseTaleIs 31 = .ok (.istore_n 3, 1) := DX10_whoseTaleIs _ _ _ rfl
theorem dX10_whoHasTale_0 : decode cX10_whoHasTale 0 = .ok (.aload_n 0, 1) := DX10_whoHasTale _ _ _ rfl
theorem dX10_whoHasTale_1 : decode cX10_whoHasTale 1 = .ok (.invokevirtual 111, 3) := DX10_whoHasTale _ _ _ rfl
theorem dX10_whoHasTale_4 : decode cX10_whoHasTale 4 = .ok (.aload_n 0, 1) := DX10_whoHasTale _ _ _ rfl
theorem dX10_whoHasTale_5 : decode cX10_whoHasTale 5 = .ok (.iload_n 1, 1) := DX10_whoHasTale _ _ _ rfl
theorem dX10_whoHasTale_6 : decode cX10_whoHasTale 6 = .ok (.iconst (-1), 1) := DX10_whoHasTale _ _ _ rfl
theorem dX10_whoHasTale_7 : decode cX10_whoHasTale 7 = .ok (.invokevirtual 118, 3) := DX10_whoHasTale _ _ _ rfl
theorem dX10_whoHasTale_10 : decode cX10_whoHasTale 10 = .ok (.iconst (-1), 1) := DX10_whoHasTale _ _ _ rfl
theorem dX10_whoHasTale_11 : decode cX10_whoHasTale 11 = .ok (.ixor, 1) := DX10_whoHasTale _ _ _ rfl
theorem dX10_whoHasTale_12 : decode cX10_whoHasTale 12 = .ok (.iand, 1) := DX10_whoHasTale _ _ _ rfl
theorem dX10_whoHasTale_13 : decode cX10_whoHasTale 13 = .ok (.ireturn, 1) := DX10_whoHasTale _ _ _ rfl
theorem dX1_peopleOfNews_0 : decode cX1_peopleOfNews 0 = .ok (.iconst 0, 1) := DX1_peopleOfNews _ _ _ rfl
theorem dX1_peopleOfNews_1 : decode cX1_peopleOfNews 1 = .ok (.istore_n 2, 1) := DX1_peopleOfNews _ _ _ rfl
theorem dX1_peopleOfNews_2 : decode cX1_peopleOfNews 2 = .ok (.iconst 0, 1) := DX1_peopleOfNews _ _ _ rfl
theorem dX1_peopleOfNews_3 : decode cX1_peopleOfNews 3 = .ok (.istore_n 3, 1) := DX1_peopleOfNews _ _ _ rfl
theorem dX1_peopleOfNews_4 : decode cX1_peopleOfNews 4 = .ok (.iload_n 3, 1) := DX1_peopleOfNews _ _ _ rfl
theorem dX1_peopleOfNews_5 : decode cX1_peopleOfNews 5 = .ok (.aload_n 0, 1) := DX1_peopleOfNews _ _ _ rfl
theorem dX1_peopleOfNews_6 : decode cX1_peopleOfNews 6 = .ok (.arraylength, 1) := DX1_peopleOfNews _ _ _ rfl
theorem dX1_peopleOfNews_7 : decode cX1_peopleOfNews 7 = .ok (.if_icmp .ge 25, 3) := DX1_peopleOfNews _ _ _ rfl
theorem dX1_peopleOfNews_32 : decode cX1_peopleOfNews 32 = .ok (.iload_n 2, 1) := DX1_peopleOfNews _ _ _ rfl
theorem dX1_peopleOfNews_33 : decode cX1_peopleOfNews 33 = .ok (.ireturn, 1) := DX1_peopleOfNews _ _ _ rfl
theorem dX1_peopleOfNews_10 : decode cX1_peopleOfNews 10 = .ok (.aload_n 0, 1) := DX1_peopleOfNews _ _ _ rfl
theorem dX1_peopleOfNews_11 : decode cX1_peopleOfNews 11 = .ok (.iload_n 3, 1) := DX1_peopleOfNews _ _ _ rfl
theorem dX1_peopleOfNews_12 : decode cX1_peopleOfNews 12 = .ok (.iaload, 1) := DX1_peopleOfNews _ _ _ rfl
theorem dX1_peopleOfNews_13 : decode cX1_peopleOfNews 13 = .ok (.iload_n 1, 1) := DX1_peopleOfNews _ _ _ rfl
theorem dX1_peopleOfNews_14 : decode cX1_peopleOfNews 14 = .ok (.invokestatic 84, 3) := DX1_peopleOfNews _ _ _ rfl
theorem dX1_peopleOfNews_17 : decode cX1_peopleOfNews 17 = .ok (.ifCond .eq 9, 3) := DX1_peopleOfNews _ _ _ rfl
theorem dX1_peopleOfNews_26 : decode cX1_peopleOfNews 26 = .ok (.iinc 3 1, 3) := DX1_peopleOfNews _ _ _ rfl
theorem dX1_peopleOfNews_29 : decode cX1_peopleOfNews 29 = .ok (.goto (-25), 3) := DX1_peopleOfNews _ _ _ rfl
theorem dX1_peopleOfNews_20 : decode cX1_peopleOfNews 20 = .ok (.iload_n 2, 1) := DX1_peopleOfNews _ _ _ rfl
theorem dX1_peopleOfNews_21 : decode cX1_peopleOfNews 21 = .ok (.iconst 1, 1) := DX1_peopleOfNews _ _ _ rfl
theorem dX1_peopleOfNews_22 : decode cX1_peopleOfNews 22 = .ok (.iload_n 3, 1) := DX1_peopleOfNews _ _ _ rfl
theorem dX1_peopleOfNews_23 : decode cX1_peopleOfNews 23 = .ok (.ishl, 1) := DX1_peopleOfNews _ _ _ rfl
theorem dX1_peopleOfNews_24 : decode cX1_peopleOfNews 24 = .ok (.ior, 1) := DX1_peopleOfNews _ _ _ rfl
theorem dX1_peopleOfNews_25 : decode cX1_peopleOfNews 25 = .ok (.istore_n 2, 1) := DX1_peopleOfNews _ _ _ rfl
theorem dX1_whoKnows_0 : decode cX1_whoKnows 0 = .ok (.aload_n 0, 1) := DX1_whoKnows _ _ _ rfl
theorem dX1_whoKnows_1 : decode cX1_whoKnows 1 = .ok (.getfield 9, 3) := DX1_whoKnows _ _ _ rfl
theorem dX1_whoKnows_4 : decode cX1_whoKnows 4 = .ok (.iload_n 1, 1) := DX1_whoKnows _ _ _ rfl
theorem dX1_whoKnows_5 : decode cX1_whoKnows 5 = .ok (.invokestatic 87, 3) := DX1_whoKnows _ _ _ rfl
theorem dX1_whoKnows_8 : decode cX1_whoKnows 8 = .ok (.ireturn, 1) := DX1_whoKnows _ _ _ rfl
def F_X10_taleOf (nw : Nat) (o : Nat) (ta : Nat → Int32) : Int32 := ta (nw * 7 + o)
set_option maxHeartbeats 4000000 in
set_option maxRecDepth 100000 in
theorem K_X10_taleOf (l : Launch) (g : GG) (v : Nat) (v3 : Nat) (v4 : Nat) (v5 : Nat) (v6 : Nat) (v7 : Nat) (v8 : Nat) (v9 : Nat) (v10 : Nat) (v11 : Nat) (v12 : Nat) (v13 : Nat) (v15 : Nat) (pe : Nat) (lc : Int32) (de : Int32) (gl : Int32) (nw : Nat) (o : Nat) (ta : Nat → Int32) (hnw : nw < 4) (ho : o < 7) : MetI l g yX10_taleOf cX10_taleOf 3 (some .int) 0 0 0 [.ref v, .int (nI nw), .int (nI o)] [(v, .inr (10, [.int (nI pe), .int lc, .int de, .ref v3, .ref v4, .ref v5, .ref v6, .ref v7, .ref v8, .ref v9, .ref v10, .ref v11, .ref v12, .ref v13, .int gl, .ref v15])), (v13, .inl (g.2.1 1, 28, .inl ta))] (fun r u => r = (F_X10_taleOf nw o ta) ∧ u = [(v, .inr (10, [.int (nI pe), .int lc, .int de, .ref v3, .ref v4, .ref v5, .ref v6, .ref v7, .ref v8, .ref v9, .ref v10, .ref v11, .ref v12, .ref v13, .int gl, .ref v15])), (v13, .inl (g.2.1 1, 28, .inl ta))]) := by
  refine MetI.of (own := RX10) rfl (by decide) (Nat.le_of_ble_eq_true rfl) ?_
  intro p e s m below meth c A ls args Q hQ X hr hin hW hl
  have hx := X.1
  have hb := X.2.1
  have hl : lv_has ls 3 [(0, .ref v), (1, .int (nI nw)), (2, .int (nI o))] := hl
  refine lv_aload_n (pc := 0) hx hb dX10_taleOf_0 rfl (lv_at hl 0 rfl) ?_
  refine r_get X hW 0 ciX10 13 rfl (by decide) m_314 rfl rfl dX10_taleOf_1 ?_
  refine lv_iload_n (pc := 4) hx hb dX10_taleOf_4 rfl (lv_at hl 1 rfl) ?_
  refine lv_bipush (v := 7) (pc := 5) hx hb dX10_taleOf_5 (by decide) ?_
  refine lv_imul (pc := 7) hx hb dX10_taleOf_7 ?_
  refine lv_topi (fun v1 ev1 => ?_)
  obtain rfl : v1 = nI (nw * 7) := ev1.trans (pk_mul nw 7)
  refine lv_iload_n (pc := 8) hx hb dX10_taleOf_8 rfl (lv_at hl 2 rfl) ?_
  refine lv_iadd (pc := 9) hx hb dX10_taleOf_9 ?_
  refine lv_topi (fun v2 ev2 => ?_)
  obtain rfl : v2 = nI (nw * 7 + o) := ev2.trans (nI_add _ _)
  refine r_iald X hW 1 rfl (vp_in_nI (by omega) (by decide)) dX10_taleOf_10 ?_
  refine lv_topi (fun v3 ev3 => ?_)
  obtain rfl : v3 = ta (nw * 7 + o) := ev3.trans (by rw [nI_clamp (by omega)])
  have hF : F_X10_taleOf nw o ta = ta (nw * 7 + o) := show F_X10_taleOf nw o ta = ta (nw * 7 + o) from rfl
  exact e_i (u := [(v, .inr (10, [.int (nI pe), .int lc, .int de, .ref v3, .ref v4, .ref v5, .ref v6, .ref v7, .ref v8, .ref v9, .ref v10, .ref v11, .ref v12, .ref v13, .int gl, .ref v15])), (v13, .inl (g.2.1 1, 28, .inl ta))]) X hQ hr (hW) [0, 1] rfl rfl (⟨hF.symm, rfl⟩) ⟨Nat.le_of_ble_eq_true rfl, Nat.le_of_ble_eq_true rfl⟩ dX10_taleOf_11

def L1_X10_whoseTaleIss (nw : Nat) (ho : Int32) (ta : Nat → Int32) (j1 : Nat) (x3_1 : Int32) : Int32 := if F_X10_taleOf nw j1 ta = ho then (x3_1 ||| ((1 : Int32) <<< ((nI j1) &&& 31))) else (x3_1)
def L1_X10_whoseTaleIs (nw : Nat) (ho : Int32) (ta : Nat → Int32) (i0_ : Int32) : Nat → Int32
  | 0 => (i0_)
  | k_ + 1 => L1_X10_whoseTaleIss nw ho ta k_ (L1_X10_whoseTaleIs nw ho ta i0_ k_)
def F_X10_whoseTaleIs (pe : Nat) (nw : Nat) (ho : Int32) (ta : Nat → Int32) : Int32 := (L1_X10_whoseTaleIs nw ho ta (0 : Int32) pe)
set_option maxHeartbeats 4000000 in
set_option maxRecDepth 100000 in
theorem K_X10_whoseTaleIs (l : Launch) (g : GG) (v : Nat) (v3 : Nat) (v4 : Nat) (v5 : Nat) (v6 : Nat) (v7 : Nat) (v8 : Nat) (v9 : Nat) (v10 : Nat) (v11 : Nat) (v12 : Nat) (v13 : Nat) (v15 : Nat) (pe : Nat) (lc : Int32) (de : Int32) (gl : Int32) (nw : Nat) (ho : Int32) (ta : Nat → Int32) (hnw : nw < 4) (hpe : pe ≤ 7) : MetI l g yX10_whoseTaleIs cX10_whoseTaleIs 5 (some .int) 1 0 0 [.ref v, .int (nI nw), .int ho] [(v, .inr (10, [.int (nI pe), .int lc, .int de, .ref v3, .ref v4, .ref v5, .ref v6, .ref v7, .ref v8, .ref v9, .ref v10, .ref v11, .ref v12, .ref v13, .int gl, .ref v15])), (v13, .inl (g.2.1 1, 28, .inl ta))] (fun r u => r = (F_X10_whoseTaleIs pe nw ho ta) ∧ u = [(v, .inr (10, [.int (nI pe), .int lc, .int de, .ref v3, .ref v4, .ref v5, .ref v6, .ref v7, .ref v8, .ref v9, .ref v10, .ref v11, .ref v12, .ref v13, .int gl, .ref v15])), (v13, .inl (g.2.1 1, 28, .inl ta))]) := by
  refine MetI.of (own := RX10) rfl (by decide) (Nat.le_of_ble_eq_true rfl) ?_
  intro p e s m below meth c A ls args Q hQ X hr hin hW hl
  have hx := X.1
  have hb := X.2.1
  have hl : lv_has ls 5 [(0, .ref v), (1, .int (nI nw)), (2, .int ho)] := hl
  refine lv_iconst (v := 0) (pc := 0) hx hb dX10_whoseTaleIs_0 (by decide) ?_
  refine lv_istore_n (lv' := [(3, .int 0), (0, .ref v), (1, .int (nI nw)), (2, .int ho)]) (pc := 1) hx hb dX10_whoseTaleIs_1 rfl hl (by decide) rfl (fun ls hl => ?_)
  refine lv_iconst (v := 0) (pc := 2) hx hb dX10_whoseTaleIs_2 (by decide) ?_
  refine lv_istore (lv' := [(4, .int 0), (3, .int 0), (0, .ref v), (1, .int (nI nw)), (2, .int ho)]) (pc := 3) hx hb dX10_whoseTaleIs_3 hl (by decide) rfl (fun ls hl => ?_)
  have loop1 : ∀ (fu1 : Nat) (j1 : Nat) (x3_1 : Int32), (pe < fu1 + j1) → (j1 ≤ pe) → (x3_1 = L1_X10_whoseTaleIs nw ho ta (0 : Int32) j1) → ∀ (H : Heap) (locs : List Loc) (ls : Array Slot), WD g A s H locs [(v, .inr (10, [.int (nI pe), .int lc, .int de, .ref v3, .ref v4, .ref v5, .ref v6, .ref v7, .ref v8, .ref v9, .ref v10, .ref v11, .ref v12, .ref v13, .int gl, .ref v15])), (v13, .inl (g.2.1 1, 28, .inl ta))] → lv_has ls 5 [(4, .int (nI j1)), (3, .int x3_1), (0, .ref v), (1, .int (nI nw)), (2, .int ho)] → W p l e (RM 1 0 0) s m args below meth c H locs 0 0 Q (F0 m 5 ls []) := by
    intro fu1
    induction fu1 with
    | zero =>
      intro j1 x3_1 hm1 hj1 hst1
      exact absurd hm1 (by omega)
    | succ fu1 ih1 =>
      intro j1 x3_1 hm1 hj1 hst1 H locs ls hW hl
      refine lv_iload (pc := 5) hx hb dX10_whoseTaleIs_5 (lv_at hl 0 rfl) ?_
      refine lv_aload_n (pc := 7) hx hb dX10_whoseTaleIs_7 rfl (lv_at hl 2 rfl) ?_
      refine r_get X hW 0 ciX10 0 rfl (by decide) m_272 rfl rfl dX10_whoseTaleIs_8 ?_
      refine lv_icmp_ge (tgt := 38) (pc := 11) hx hb dX10_whoseTaleIs_11 rfl (fun c1 => ?_) (fun c1 => ?_)
      · have h2 : pe ≤ j1 := (nI_leI (a := pe) (b := j1) (by omega) (by omega)).mp c1
        have hN1 : j1 = pe := by omega
        rw [hN1] at hst1
        subst hst1
        have hW : WD g A s _ _ [(v, .inr (10, [.int (nI pe), .int lc, .int de, .ref v3, .ref v4, .ref v5, .ref v6, .ref v7, .ref v8, .ref v9, .ref v10, .ref v11, .ref v12, .ref v13, .int gl, .ref v15])), (v13, .inl (g.2.1 1, 28, .inl ta))] := hW
        refine lv_iload_n (pc := 38) hx hb dX10_whoseTaleIs_38 rfl (lv_at hl 1 rfl) ?_
        have hF : F_X10_whoseTaleIs pe nw ho ta = (L1_X10_whoseTaleIs nw ho ta (0 : Int32) pe) := show F_X10_whoseTaleIs pe nw ho ta = (L1_X10_whoseTaleIs nw ho ta (0 : Int32) pe) from rfl
        exact e_i (u := [(v, .inr (10, [.int (nI pe), .int lc, .int de, .ref v3, .ref v4, .ref v5, .ref v6, .ref v7, .ref v8, .ref v9, .ref v10, .ref v11, .ref v12, .ref v13, .int gl, .ref v15])), (v13, .inl (g.2.1 1, 28, .inl ta))]) X hQ hr (hW) [0, 1] rfl rfl (⟨hF.symm, rfl⟩) ⟨Nat.le_of_ble_eq_true rfl, Nat.le_of_ble_eq_true rfl⟩ dX10_whoseTaleIs_39
      · have h3 : ¬ (pe ≤ j1) := fun q => c1 ((nI_leI (a := pe) (b := j1) (by omega) (by omega)).mpr q)
        refine lv_aload_n (pc := 14) hx hb dX10_whoseTaleIs_14 rfl (lv_at hl 2 rfl) ?_
        refine lv_iload_n (pc := 15) hx hb dX10_whoseTaleIs_15 rfl (lv_at hl 3 rfl) ?_
        refine lv_iload (pc := 16) hx hb dX10_whoseTaleIs_16 (lv_at hl 0 rfl) ?_
        refine c_Vi (pc := 18) (As := [.int (nI nw), .int (nI j1)]) (rest := []) (wr := []) X hW 0 ciX10 rfl (K_X10_taleOf l g v v3 v4 v5 v6 v7 v8 v9 v10 v11 v12 v13 v15 pe lc de gl nw j1 ta (by omega) (by omega)) vX10_115 [0, 1] [] rfl rfl rfl rfl rfl rfl hl.1 rfl (Nat.le_of_ble_eq_true rfl) ⟨Nat.le_of_ble_eq_true rfl, Nat.le_of_ble_eq_true rfl⟩ ⟨Nat.le_of_ble_eq_true rfl, Nat.le_of_ble_eq_true rfl⟩ dX10_whoseTaleIs_18 (fun r4 u9 H locs hq hW => ?_)
        obtain ⟨rfl, rfl⟩ := hq
        have hW : WD g A s _ _ [(v, .inr (10, [.int (nI pe), .int lc, .int de, .ref v3, .ref v4, .ref v5, .ref v6, .ref v7, .ref v8, .ref v9, .ref v10, .ref v11, .ref v12, .ref v13, .int gl, .ref v15])), (v13, .inl (g.2.1 1, 28, .inl ta))] := hW
        refine lv_iload_n (pc := 21) hx hb dX10_whoseTaleIs_21 rfl (lv_at hl 4 rfl) ?_
        refine lv_icmp_ne (tgt := 32) (pc := 22) hx hb dX10_whoseTaleIs_22 rfl (fun c5 => ?_) (fun c5 => ?_)
        · refine lv_iinc (v := nI (j1 + 1)) (lv' := [(4, .int (nI (j1 + 1))), (3, .int x3_1), (0, .ref v), (1, .int (nI nw)), (2, .int ho)]) (pc := 32) hx hb dX10_whoseTaleIs_32 hl (k := 0) rfl (nI_add j1 1) (by decide) rfl (fun ls hl => ?_)
          refine lv_goto (tgt := 5) (pc := 35) hx hb dX10_whoseTaleIs_35 rfl ?_
          exact ih1 (j1 + 1) x3_1 (by omega) (by omega) (by rw [L1_X10_whoseTaleIs, ← hst1]; exact (show L1_X10_whoseTaleIss nw ho ta j1 x3_1 = x3_1 from by rw [L1_X10_whoseTaleIss, if_neg c5]).symm) _ _ _ hW (lv_sub hl [0, 1, 2, 3, 4] rfl)
        · refine lv_iload_n (pc := 25) hx hb dX10_whoseTaleIs_25 rfl (lv_at hl 1 rfl) ?_
          refine lv_iconst (v := 1) (pc := 26) hx hb dX10_whoseTaleIs_26 (by decide) ?_
          refine lv_iload (pc := 27) hx hb dX10_whoseTaleIs_27 (lv_at hl 0 rfl) ?_
          refine lv_ishl (pc := 29) hx hb dX10_whoseTaleIs_29 ?_
          refine lv_ior (pc := 30) hx hb dX10_whoseTaleIs_30 ?_
          refine lv_istore_n (lv' := [(3, .int (x3_1 ||| ((1 : Int32) <<< ((nI j1) &&& 31)))), (4, .int (nI j1)), (0, .ref v), (1, .int (nI nw)), (2, .int ho)]) (pc := 31) hx hb dX10_whoseTaleIs_31 rfl hl (by decide) rfl (fun ls hl => ?_)
          refine lv_iinc (v := nI (j1 + 1)) (lv' := [(4, .int (nI (j1 + 1))), (3, .int (x3_1 ||| ((1 : Int32) <<< ((nI j1) &&& 31)))), (0, .ref v), (1, .int (nI nw)), (2, .int ho)]) (pc := 32) hx hb dX10_whoseTaleIs_32 hl (k := 1) rfl (nI_add j1 1) (by decide) rfl (fun ls hl => ?_)
          refine lv_goto (tgt := 5) (pc := 35) hx hb dX10_whoseTaleIs_35 rfl ?_
          exact ih1 (j1 + 1) (x3_1 ||| ((1 : Int32) <<< ((nI j1) &&& 31))) (by omega) (by omega) (by rw [L1_X10_whoseTaleIs, ← hst1]; exact (show L1_X10_whoseTaleIss nw ho ta j1 x3_1 = x3_1 ||| ((1 : Int32) <<< ((nI j1) &&& 31)) from by rw [L1_X10_whoseTaleIss, if_pos c5]).symm) _ _ _ hW (lv_sub hl [0, 1, 2, 3, 4] rfl)
  exact loop1 (pe + 1) 0 (0 : Int32) (by omega) (by omega) rfl _ _ _ hW (lv_sub hl [0, 1, 2, 3, 4] rfl)

def F_X10_whoHasTale (pe : Nat) (nw : Nat) (ta : Nat → Int32) : Int32 := (evy (nI pe)) &&& ((F_X10_whoseTaleIs pe nw (-1 : Int32) ta) ^^^ (-1 : Int32))
set_option maxHeartbeats 4000000 in
set_option maxRecDepth 100000 in
theorem K_X10_whoHasTale (l : Launch) (g : GG) (v : Nat) (v3 : Nat) (v4 : Nat) (v5 : Nat) (v6 : Nat) (v7 : Nat) (v8 : Nat) (v9 : Nat) (v10 : Nat) (v11 : Nat) (v12 : Nat) (v13 : Nat) (v15 : Nat) (pe : Nat) (lc : Int32) (de : Int32) (gl : Int32) (nw : Nat) (ta : Nat → Int32) (hnw : nw < 4) (hpe : pe ≤ 7) : MetI l g yX10_whoHasTale cX10_whoHasTale 2 (some .int) 2 0 0 [.ref v, .int (nI nw)] [(v, .inr (10, [.int (nI pe), .int lc, .int de, .ref v3, .ref v4, .ref v5, .ref v6, .ref v7, .ref v8, .ref v9, .ref v10, .ref v11, .ref v12, .ref v13, .int gl, .ref v15])), (v13, .inl (g.2.1 1, 28, .inl ta))] (fun r u => r = (F_X10_whoHasTale pe nw ta) ∧ u = [(v, .inr (10, [.int (nI pe), .int lc, .int de, .ref v3, .ref v4, .ref v5, .ref v6, .ref v7, .ref v8, .ref v9, .ref v10, .ref v11, .ref v12, .ref v13, .int gl, .ref v15])), (v13, .inl (g.2.1 1, 28, .inl ta))]) := by
  refine MetI.of (own := RX10) rfl (by decide) (Nat.le_of_ble_eq_true rfl) ?_
  intro p e s m below meth c A ls args Q hQ X hr hin hW hl
  have hx := X.1
  have hb := X.2.1
  have hl : lv_has ls 2 [(0, .ref v), (1, .int (nI nw))] := hl
  refine lv_aload_n (pc := 0) hx hb dX10_whoHasTale_0 rfl (lv_at hl 0 rfl) ?_
  refine c_Vi (pc := 1) (As := []) (rest := []) (wr := [(v13, .inl (g.2.1 1, 28, .inl ta))]) X hW 0 ciX10 rfl (C_X10_everyoneG l g v v3 v4 v5 v6 v7 v8 v9 v10 v11 v12 v13 v15 (nI pe) lc de gl) vX10_111 [0] [1] rfl rfl rfl rfl rfl rfl hl.1 rfl (Nat.le_of_ble_eq_true rfl) ⟨Nat.le_of_ble_eq_true rfl, Nat.le_of_ble_eq_true rfl⟩ ⟨Nat.le_of_ble_eq_true rfl, Nat.le_of_ble_eq_true rfl⟩ dX10_whoHasTale_1 (fun r1 u9 H locs hq hW => ?_)
  obtain ⟨rfl, rfl⟩ := hq
  have hW : WD g A s _ _ [(v13, .inl (g.2.1 1, 28, .inl ta)), (v, .inr (10, [.int (nI pe), .int lc, .int de, .ref v3, .ref v4, .ref v5, .ref v6, .ref v7, .ref v8, .ref v9, .ref v10, .ref v11, .ref v12, .ref v13, .int gl, .ref v15]))] := hW
  refine lv_aload_n (pc := 4) hx hb dX10_whoHasTale_4 rfl (lv_at hl 0 rfl) ?_
  refine lv_iload_n (pc := 5) hx hb dX10_whoHasTale_5 rfl (lv_at hl 1 rfl) ?_
  refine lv_iconst (v := (-1)) (pc := 6) hx hb dX10_whoHasTale_6 (by decide) ?_
  refine c_Vi (pc := 7) (As := [.int (nI nw), .int (-1)]) (rest := [.int (evy (nI pe))]) (wr := []) X hW 1 ciX10 rfl (K_X10_whoseTaleIs l g v v3 v4 v5 v6 v7 v8 v9 v10 v11 v12 v13 v15 pe lc de gl nw (-1 : Int32) ta (by omega) (by omega)) vX10_118 [1, 0] [] rfl rfl rfl rfl rfl rfl hl.1 rfl (Nat.le_of_ble_eq_true rfl) ⟨Nat.le_of_ble_eq_true rfl, Nat.le_of_ble_eq_true rfl⟩ ⟨Nat.le_of_ble_eq_true rfl, Nat.le_of_ble_eq_true rfl⟩ dX10_whoHasTale_7 (fun r2 u9 H locs hq hW => ?_)
  obtain ⟨rfl, rfl⟩ := hq
  have hW : WD g A s _ _ [(v, .inr (10, [.int (nI pe), .int lc, .int de, .ref v3, .ref v4, .ref v5, .ref v6, .ref v7, .ref v8, .ref v9, .ref v10, .ref v11, .ref v12, .ref v13, .int gl, .ref v15])), (v13, .inl (g.2.1 1, 28, .inl ta))] := hW
  refine lv_iconst (v := (-1)) (pc := 10) hx hb dX10_whoHasTale_10 (by decide) ?_
  refine lv_ixor (pc := 11) hx hb dX10_whoHasTale_11 ?_
  refine lv_iand (pc := 12) hx hb dX10_whoHasTale_12 ?_
  have hF : F_X10_whoHasTale pe nw ta = (evy (nI pe)) &&& ((F_X10_whoseTaleIs pe nw (-1 : Int32) ta) ^^^ (-1 : Int32)) := show F_X10_whoHasTale pe nw ta = (evy (nI pe)) &&& ((F_X10_whoseTaleIs pe nw (-1 : Int32) ta) ^^^ (-1 : Int32)) from rfl
  exact e_i (u := [(v, .inr (10, [.int (nI pe), .int lc, .int de, .ref v3, .ref v4, .ref v5, .ref v6, .ref v7, .ref v8, .ref v9, .ref v10, .ref v11, .ref v12, .ref v13, .int gl, .ref v15])), (v13, .inl (g.2.1 1, 28, .inl ta))]) X hQ hr (hW) [0, 1] rfl rfl (⟨hF.symm, rfl⟩) ⟨Nat.le_of_ble_eq_true rfl, Nat.le_of_ble_eq_true rfl⟩ dX10_whoHasTale_13

def L1_X1_peopleOfNewss (kN : Nat → Int32) (nw : Nat) (j1 : Nat) (x2_1 : Int32) : Int32 := if hasv (kN j1) (nI nw) = 0 then (x2_1) else (x2_1 ||| ((1 : Int32) <<< ((nI j1) &&& 31)))
def L1_X1_peopleOfNews (kN : Nat → Int32) (nw : Nat) (i0_ : Int32) : Nat → Int32
  | 0 => (i0_)
  | k_ + 1 => L1_X1_peopleOfNewss kN nw k_ (L1_X1_peopleOfNews kN nw i0_ k_)
def F_X1_peopleOfNews (kN : Nat → Int32) (nw : Nat) : Int32 := (L1_X1_peopleOfNews kN nw (0 : Int32) 7)
set_option maxHeartbeats 4000000 in
set_option maxRecDepth 100000 in
theorem K_X1_peopleOfNews (l : Launch) (g : GG) (yk : Nat) (kN : Nat → Int32) (nw : Nat) (hnw : nw < 4) : MetI l g yX1_peopleOfNews cX1_peopleOfNews 4 (some .int) 1 0 0 [.ref yk, .int (nI nw)] [(yk, .inl (g.2.1 1, 7, .inl kN))] (fun r u => r = (F_X1_peopleOfNews kN nw) ∧ u = [(yk, .inl (g.2.1 1, 7, .inl kN))]) := by
  refine MetI.of (own := RX1) rfl (by decide) (Nat.le_of_ble_eq_true rfl) ?_
  intro p e s m below meth c A ls args Q hQ X hr hin hW hl
  have hx := X.1
  have hb := X.2.1
  have hl : lv_has ls 4 [(0, .ref yk), (1, .int (nI nw))] := hl
  refine lv_iconst (v := 0) (pc := 0) hx hb dX1_peopleOfNews_0 (by decide) ?_
  refine lv_istore_n (lv' := [(2, .int 0), (0, .ref yk), (1, .int (nI nw))]) (pc := 1) hx hb dX1_peopleOfNews_1 rfl hl (by decide) rfl (fun ls hl => ?_)
  refine lv_iconst (v := 0) (pc := 2) hx hb dX1_peopleOfNews_2 (by decide) ?_
  refine lv_istore_n (lv' := [(3, .int 0), (2, .int 0), (0, .ref yk), (1, .int (nI nw))]) (pc := 3) hx hb dX1_peopleOfNews_3 rfl hl (by decide) rfl (fun ls hl => ?_)
  have loop1 : ∀ (fu1 : Nat) (j1 : Nat) (x2_1 : Int32), (7 < fu1 + j1) → (j1 ≤ 7) → (x2_1 = L1_X1_peopleOfNews kN nw (0 : Int32) j1) → ∀ (H : Heap) (locs : List Loc) (ls : Array Slot), WD g A s H locs [(yk, .inl (g.2.1 1, 7, .inl kN))] → lv_has ls 4 [(3, .int (nI j1)), (2, .int x2_1), (0, .ref yk), (1, .int (nI nw))] → W p l e (RM 1 0 0) s m args below meth c H locs 0 0 Q (F0 m 4 ls []) := by
    intro fu1
    induction fu1 with
    | zero =>
      intro j1 x2_1 hm1 hj1 hst1
      exact absurd hm1 (by omega)
    | succ fu1 ih1 =>
      intro j1 x2_1 hm1 hj1 hst1 H locs ls hW hl
      refine lv_iload_n (pc := 4) hx hb dX1_peopleOfNews_4 rfl (lv_at hl 0 rfl) ?_
      refine lv_aload_n (pc := 5) hx hb dX1_peopleOfNews_5 rfl (lv_at hl 2 rfl) ?_
      refine r_alen (v := 7) X hW 0 1 rfl rfl rfl dX1_peopleOfNews_6 ?_
      refine lv_icmp_ge (tgt := 32) (pc := 7) hx hb dX1_peopleOfNews_7 rfl (fun c1 => ?_) (fun c1 => ?_)
      · have h2 : 7 ≤ j1 := (nI_leI (a := 7) (b := j1) (by omega) (by omega)).mp c1
        have hN1 : j1 = 7 := by omega
        rw [hN1] at hst1
        subst hst1
        have hW : WD g A s _ _ [(yk, .inl (g.2.1 1, 7, .inl kN))] := hW
        refine lv_iload_n (pc := 32) hx hb dX1_peopleOfNews_32 rfl (lv_at hl 1 rfl) ?_
        have hF : F_X1_peopleOfNews kN nw = (L1_X1_peopleOfNews kN nw (0 : Int32) 7) := show F_X1_peopleOfNews kN nw = (L1_X1_peopleOfNews kN nw (0 : Int32) 7) from rfl
        exact e_i (u := [(yk, .inl (g.2.1 1, 7, .inl kN))]) X hQ hr (hW) [0] rfl rfl (⟨hF.symm, rfl⟩) ⟨Nat.le_of_ble_eq_true rfl, Nat.le_of_ble_eq_true rfl⟩ dX1_peopleOfNews_33
      · have h3 : ¬ (7 ≤ j1) := fun q => c1 ((nI_leI (a := 7) (b := j1) (by omega) (by omega)).mpr q)
        refine lv_aload_n (pc := 10) hx hb dX1_peopleOfNews_10 rfl (lv_at hl 2 rfl) ?_
        refine lv_iload_n (pc := 11) hx hb dX1_peopleOfNews_11 rfl (lv_at hl 0 rfl) ?_
        refine r_iald X hW 0 rfl (vp_in_nI (by omega) (by decide)) dX1_peopleOfNews_12 ?_
        refine lv_topi (fun v4 ev4 => ?_)
        obtain rfl : v4 = kN j1 := ev4.trans (by rw [nI_clamp (by omega)])
        refine lv_iload_n (pc := 13) hx hb dX1_peopleOfNews_13 rfl (lv_at hl 3 rfl) ?_
        refine c_SNi (pc := 14) (As := [.int (kN j1), .int (nI nw)]) (rest := []) (wr := [(yk, .inl (g.2.1 1, 7, .inl kN))]) X hW (C_X11_has l g (kN j1) (nI nw)) vX1_84 [] [0] rfl rfl rfl rfl rfl rfl hl.1 rfl (Nat.le_of_ble_eq_true rfl) ⟨Nat.le_of_ble_eq_true rfl, Nat.le_of_ble_eq_true rfl⟩ ⟨Nat.le_of_ble_eq_true rfl, Nat.le_of_ble_eq_true rfl⟩ dX1_peopleOfNews_14 (fun r5 u9 H locs hq hW => ?_)
        obtain ⟨rfl, rfl⟩ := hq
        have hW : WD g A s _ _ [(yk, .inl (g.2.1 1, 7, .inl kN))] := hW
        refine lv_if_eq (tgt := 26) (pc := 17) hx hb dX1_peopleOfNews_17 rfl (fun c6 => ?_) (fun c6 => ?_)
        · refine lv_iinc (v := nI (j1 + 1)) (lv' := [(3, .int (nI (j1 + 1))), (2, .int x2_1), (0, .ref yk), (1, .int (nI nw))]) (pc := 26) hx hb dX1_peopleOfNews_26 hl (k := 0) rfl (nI_add j1 1) (by decide) rfl (fun ls hl => ?_)
          refine lv_goto (tgt := 4) (pc := 29) hx hb dX1_peopleOfNews_29 rfl ?_
          exact ih1 (j1 + 1) x2_1 (by omega) (by omega) (by rw [L1_X1_peopleOfNews, ← hst1]; exact (show L1_X1_peopleOfNewss kN nw j1 x2_1 = x2_1 from by rw [L1_X1_peopleOfNewss, if_pos c6]).symm) _ _ _ hW (lv_sub hl [0, 1, 2, 3] rfl)
        · refine lv_iload_n (pc := 20) hx hb dX1_peopleOfNews_20 rfl (lv_at hl 1 rfl) ?_
          refine lv_iconst (v := 1) (pc := 21) hx hb dX1_peopleOfNews_21 (by decide) ?_
          refine lv_iload_n (pc := 22) hx hb dX1_peopleOfNews_22 rfl (lv_at hl 0 rfl) ?_
          refine lv_ishl (pc := 23) hx hb dX1_peopleOfNews_23 ?_
          refine lv_ior (pc := 24) hx hb dX1_peopleOfNews_24 ?_
          refine lv_istore_n (lv' := [(2, .int (x2_1 ||| ((1 : Int32) <<< ((nI j1) &&& 31)))), (3, .int (nI j1)), (0, .ref yk), (1, .int (nI nw))]) (pc := 25) hx hb dX1_peopleOfNews_25 rfl hl (by decide) rfl (fun ls hl => ?_)
          refine lv_iinc (v := nI (j1 + 1)) (lv' := [(3, .int (nI (j1 + 1))), (2, .int (x2_1 ||| ((1 : Int32) <<< ((nI j1) &&& 31)))), (0, .ref yk), (1, .int (nI nw))]) (pc := 26) hx hb dX1_peopleOfNews_26 hl (k := 1) rfl (nI_add j1 1) (by decide) rfl (fun ls hl => ?_)
          refine lv_goto (tgt := 4) (pc := 29) hx hb dX1_peopleOfNews_29 rfl ?_
          exact ih1 (j1 + 1) (x2_1 ||| ((1 : Int32) <<< ((nI j1) &&& 31))) (by omega) (by omega) (by rw [L1_X1_peopleOfNews, ← hst1]; exact (show L1_X1_peopleOfNewss kN nw j1 x2_1 = x2_1 ||| ((1 : Int32) <<< ((nI j1) &&& 31)) from by rw [L1_X1_peopleOfNewss, if_neg c6]).symm) _ _ _ hW (lv_sub hl [0, 1, 2, 3] rfl)
  exact loop1 (7 + 1) 0 (0 : Int32) (by omega) (by omega) rfl _ _ _ hW (lv_sub hl [0, 1, 2, 3] rfl)

def F_X1_whoKnows (kN : Nat → Int32) (nw : Nat) : Int32 := F_X1_peopleOfNews kN nw
set_option maxHeartbeats 4000000 in
set_option maxRecDepth 100000 in
theorem K_X1_whoKnows (l : Launch) (g : GG) (y0 : Nat) (yk : Nat) (yt : Nat) (yd : Int32) (yu : Int64) (yb : Int64) (kN : Nat → Int32) (tO : Nat → Int32) (nw : Nat) (hnw : nw < 4) : MetI l g yX1_whoKnows cX1_whoKnows 2 (some .int) 2 0 0 [.ref y0, .int (nI nw)] [(y0, .inr (1, [.ref yk, .ref yt, .int yd, .long yu, .long yb])), (yk, .inl (g.2.1 1, 7, .inl kN)), (yt, .inl (g.2.1 1, 7, .inl tO))] (fun r u => r = (F_X1_whoKnows kN nw) ∧ u = [(y0, .inr (1, [.ref yk, .ref yt, .int yd, .long yu, .long yb])), (yk, .inl (g.2.1 1, 7, .inl kN)), (yt, .inl (g.2.1 1, 7, .inl tO))]) := by
  refine MetI.of (own := RX1) rfl (by decide) (Nat.le_of_ble_eq_true rfl) ?_
  intro p e s m below meth c A ls args Q hQ X hr hin hW hl
  have hx := X.1
  have hb := X.2.1
  have hl : lv_has ls 2 [(0, .ref y0), (1, .int (nI nw))] := hl
  refine lv_aload_n (pc := 0) hx hb dX1_whoKnows_0 rfl (lv_at hl 0 rfl) ?_
  refine r_get X hW 0 ciX1 0 rfl (by decide) m_58 rfl rfl dX1_whoKnows_1 ?_
  refine lv_iload_n (pc := 4) hx hb dX1_whoKnows_4 rfl (lv_at hl 1 rfl) ?_
  refine c_Si (pc := 5) (As := [.ref yk, .int (nI nw)]) (rest := []) (wr := [(y0, .inr (1, [.ref yk, .ref yt, .int yd, .long yu, .long yb])), (yt, .inl (g.2.1 1, 7, .inl tO))]) X hW (K_X1_peopleOfNews l g yk kN nw (by omega)) vX1_87 [1] [0, 2] rfl rfl rfl rfl rfl rfl hl.1 rfl (Nat.le_of_ble_eq_true rfl) ⟨Nat.le_of_ble_eq_true rfl, Nat.le_of_ble_eq_true rfl⟩ ⟨Nat.le_of_ble_eq_true rfl, Nat.le_of_ble_eq_true rfl⟩ dX1_whoKnows_5 (fun r1 u9 H locs hq hW => ?_)
  obtain ⟨rfl, rfl⟩ := hq
  have hW : WD g A s _ _ [(y0, .inr (1, [.ref yk, .ref yt, .int yd, .long yu, .long yb])), (yt, .inl (g.2.1 1, 7, .inl tO)), (yk, .inl (g.2.1 1, 7, .inl kN))] := hW
  have hF : F_X1_whoKnows kN nw = F_X1_peopleOfNews kN nw := show F_X1_whoKnows kN nw = F_X1_peopleOfNews kN nw from rfl
  exact e_i (u := [(y0, .inr (1, [.ref yk, .ref yt, .int yd, .long yu, .long yb])), (yk, .inl (g.2.1 1, 7, .inl kN)), (yt, .inl (g.2.1 1, 7, .inl tO))]) X hQ hr (hW) [0, 2, 1] rfl rfl (⟨hF.symm, rfl⟩) ⟨Nat.le_of_ble_eq_true rfl, Nat.le_of_ble_eq_true rfl⟩ dX1_whoKnows_8

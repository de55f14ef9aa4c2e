theorem m_564 : (Cond.code yX4_init prog_6_method_1_code 2 (Option.none : Option Jvm.ClassFile.FieldType)) ∈ BW := bw (tb3 84 (by decide +kernel)) (by decide +kernel)
theorem dX4_init_0 : decode cX4_init 0 = .ok (.aload_n 0, 1) := by decide +kernel
theorem m_565 : (Cond.methodLink "NoonValley$Plan" 3 objectInit) ∈ BW := bw (tb3 85 (by decide +kernel)) (by decide +kernel)
theorem dX4_init_1 : decode cX4_init 1 = .ok (.invokespecial 3, 3) := by decide +kernel
theorem dX4_init_4 : decode cX4_init 4 = .ok (.aload_n 0, 1) := by decide +kernel
theorem dX4_init_5 : decode cX4_init 5 = .ok (.bipush 40, 2) := by decide +kernel
theorem dX4_init_7 : decode cX4_init 7 = .ok (.newarray .int, 2) := by decide +kernel
theorem dX4_init_9 : decode cX4_init 9 = .ok (.putfield 11, 3) := by decide +kernel
theorem dX4_init_12 : decode cX4_init 12 = .ok (.aload_n 0, 1) := by decide +kernel
theorem dX4_init_13 : decode cX4_init 13 = .ok (.bipush 40, 2) := by decide +kernel
theorem dX4_init_15 : decode cX4_init 15 = .ok (.newarray .int, 2) := by decide +kernel
theorem dX4_init_17 : decode cX4_init 17 = .ok (.putfield 15, 3) := by decide +kernel
theorem dX4_init_20 : decode cX4_init 20 = .ok (.aload_n 0, 1) := by decide +kernel
theorem dX4_init_21 : decode cX4_init 21 = .ok (.bipush 40, 2) := by decide +kernel
theorem dX4_init_23 : decode cX4_init 23 = .ok (.newarray .int, 2) := by decide +kernel
theorem dX4_init_25 : decode cX4_init 25 = .ok (.putfield 18, 3) := by decide +kernel
theorem dX4_init_28 : decode cX4_init 28 = .ok (.aload_n 0, 1) := by decide +kernel
theorem dX4_init_29 : decode cX4_init 29 = .ok (.bipush 40, 2) := by decide +kernel
theorem dX4_init_31 : decode cX4_init 31 = .ok (.newarray .int, 2) := by decide +kernel
theorem dX4_init_33 : decode cX4_init 33 = .ok (.putfield 21, 3) := by decide +kernel
theorem dX4_init_36 : decode cX4_init 36 = .ok (.aload_n 0, 1) := by decide +kernel
theorem dX4_init_37 : decode cX4_init 37 = .ok (.bipush 40, 2) := by decide +kernel
theorem dX4_init_39 : decode cX4_init 39 = .ok (.newarray .int, 2) := by decide +kernel
theorem dX4_init_41 : decode cX4_init 41 = .ok (.putfield 24, 3) := by decide +kernel
theorem dX4_init_44 : decode cX4_init 44 = .ok (.aload_n 0, 1) := by decide +kernel
theorem dX4_init_45 : decode cX4_init 45 = .ok (.bipush 40, 2) := by decide +kernel
theorem dX4_init_47 : decode cX4_init 47 = .ok (.newarray .int, 2) := by decide +kernel
theorem dX4_init_49 : decode cX4_init 49 = .ok (.putfield 27, 3) := by decide +kernel
theorem dX4_init_52 : decode cX4_init 52 = .ok (.aload_n 0, 1) := by decide +kernel
theorem dX4_init_53 : decode cX4_init 53 = .ok (.bipush 40, 2) := by decide +kernel
theorem dX4_init_55 : decode cX4_init 55 = .ok (.newarray .int, 2) := by decide +kernel
theorem dX4_init_57 : decode cX4_init 57 = .ok (.putfield 30, 3) := by decide +kernel
theorem dX4_init_60 : decode cX4_init 60 = .ok (.aload_n 0, 1) := by decide +kernel
theorem dX4_init_61 : decode cX4_init 61 = .ok (.aload_n 1, 1) := by decide +kernel
theorem dX4_init_62 : decode cX4_init 62 = .ok (.putfield 33, 3) := by decide +kernel
theorem dX4_init_65 : decode cX4_init 65 = .ok (.return_, 1) := by decide +kernel
set_option maxHeartbeats 4000000 in
set_option maxRecDepth 100000 in
theorem C_X8_initF (l : Launch) (g : GG) (h0 : Nat) : MetV l g yX8_init cX8_init 1 none 1 1 400 [.ref h0] [(h0, .inr (8, [.null, .int 0, .int 0]))] (fun u => ∃ (q : Nat → Nat), u = [(h0, .inr (8, [.ref (q 0), .int 0, .int 0])), ((q 0), .inl (g.2.1 1, 400, .inl (fun _ => 0)))]) := by
  refine MetV.of (own := RX8) rfl (by decide) (Nat.le_of_ble_eq_true rfl) ?_
  intro p e s m below meth c A ls args Q hQ X hr hin hW hl
  have hx := X.1
  have hb := X.2.1
  have hl : lv_has ls 1 [(0, .ref h0)] := hl
  refine lv_aload_n (pc := 0) hx hb dX8_init_0 rfl (lv_at hl 0 rfl) ?_
  refine W.objInit hx hb X.2.2.2.1 (X.2.2.2.2.1 _ m_35) (X.2.2.2.2.1 _ m_28) (X.2.2.2.2.1 _ m_29) rfl (by rw [X.2.2.1]; exact hl.1) rfl dX8_init_1 (Nat.le_of_ble_eq_true rfl) (Nat.le_of_ble_eq_true rfl) ?_
  refine W.eq (g2 := F0 m 4 ls []) rfl ?_
  refine lv_aload_n (pc := 4) hx hb dX8_init_4 rfl (lv_at hl 0 rfl) ?_
  refine lv_sipush (v := 400) (pc := 5) hx hb dX8_init_5 (by decide) ?_
  refine r_newa (a0 := (400, .inl (fun _ => 0))) X hW .int rfl m_47 1 rfl (by intro C h; cases h) (fun _ => rfl) (by decide) (by decide) (Nat.le_of_ble_eq_true rfl) ⟨Nat.le_of_ble_eq_true rfl, Nat.le_of_ble_eq_true rfl⟩ dX8_init_8 (fun q1 H hW => ?_)
  have hW : WD g A s _ _ [(h0, .inr (8, [.null, .int 0, .int 0])), (q1, .inl (g.2.1 1, 400, .inl (fun _ => 0)))] := hW
  refine r_putF (ws' := [(h0, .inr (8, [.ref q1, .int 0, .int 0])), (q1, .inl (g.2.1 1, 400, .inl (fun _ => 0)))]) X hin hW 0 ciX8 0 rfl (by decide) m_36 rfl rfl rfl rfl rfl (Nat.le_of_ble_eq_true rfl) rfl dX8_init_10 (fun H locs hW => ?_)
  exact e_v X hQ hr hW (u := [(h0, .inr (8, [.ref q1, .int 0, .int 0])), (q1, .inl (g.2.1 1, 400, .inl (fun _ => 0)))]) [0, 1] rfl rfl (⟨fun k => [q1].getD k 0, rfl⟩) ⟨Nat.le_of_ble_eq_true rfl, Nat.le_of_ble_eq_true rfl⟩ dX8_init_13

set_option maxHeartbeats 4000000 in
set_option maxRecDepth 100000 in
theorem C_X1_initF (l : Launch) (g : GG) (h0 : Nat) : MetV l g yX1_init cX1_init 1 none 1 2 14 [.ref h0] [(h0, .inr (1, [.null, .null, .int 0, .long 0, .long 0]))] (fun u => ∃ (q : Nat → Nat), u = [(h0, .inr (1, [.ref (q 0), .ref (q 1), .int 0, .long 0, .long 0])), ((q 0), .inl (g.2.1 1, 7, .inl (fun _ => 0))), ((q 1), .inl (g.2.1 1, 7, .inl (fun _ => 0)))]) := by
  refine MetV.of (own := RX1) rfl (by decide) (Nat.le_of_ble_eq_true rfl) ?_
  intro p e s m below meth c A ls args Q hQ X hr hin hW hl
  have hx := X.1
  have hb := X.2.1
  have hl : lv_has ls 1 [(0, .ref h0)] := hl
  refine lv_aload_n (pc := 0) hx hb dX1_init_0 rfl (lv_at hl 0 rfl) ?_
  refine W.objInit hx hb X.2.2.2.1 (X.2.2.2.2.1 _ m_57) (X.2.2.2.2.1 _ m_28) (X.2.2.2.2.1 _ m_29) rfl (by rw [X.2.2.1]; exact hl.1) rfl dX1_init_1 (Nat.le_of_ble_eq_true rfl) (Nat.le_of_ble_eq_true rfl) ?_
  refine W.eq (g2 := F0 m 4 ls []) rfl ?_
  refine lv_aload_n (pc := 4) hx hb dX1_init_4 rfl (lv_at hl 0 rfl) ?_
  refine lv_bipush (v := 7) (pc := 5) hx hb dX1_init_5 (by decide) ?_
  refine r_newa (a0 := (7, .inl (fun _ => 0))) X hW .int rfl m_47 1 rfl (by intro C h; cases h) (fun _ => rfl) (by decide) (by decide) (Nat.le_of_ble_eq_true rfl) ⟨Nat.le_of_ble_eq_true rfl, Nat.le_of_ble_eq_true rfl⟩ dX1_init_7 (fun q1 H hW => ?_)
  have hW : WD g A s _ _ [(h0, .inr (1, [.null, .null, .int 0, .long 0, .long 0])), (q1, .inl (g.2.1 1, 7, .inl (fun _ => 0)))] := hW
  refine r_putF (ws' := [(h0, .inr (1, [.ref q1, .null, .int 0, .long 0, .long 0])), (q1, .inl (g.2.1 1, 7, .inl (fun _ => 0)))]) X hin hW 0 ciX1 0 rfl (by decide) m_58 rfl rfl rfl rfl rfl (Nat.le_of_ble_eq_true rfl) rfl dX1_init_9 (fun H locs hW => ?_)
  refine lv_aload_n (pc := 12) hx hb dX1_init_12 rfl (lv_at hl 0 rfl) ?_
  refine lv_bipush (v := 7) (pc := 13) hx hb dX1_init_13 (by decide) ?_
  refine r_newa (a0 := (7, .inl (fun _ => 0))) X hW .int rfl m_47 1 rfl (by intro C h; cases h) (fun _ => rfl) (by decide) (by decide) (Nat.le_of_ble_eq_true rfl) ⟨Nat.le_of_ble_eq_true rfl, Nat.le_of_ble_eq_true rfl⟩ dX1_init_15 (fun q2 H hW => ?_)
  have hW : WD g A s _ _ [(h0, .inr (1, [.ref q1, .null, .int 0, .long 0, .long 0])), (q1, .inl (g.2.1 1, 7, .inl (fun _ => 0))), (q2, .inl (g.2.1 1, 7, .inl (fun _ => 0)))] := hW
  refine r_putF (ws' := [(h0, .inr (1, [.ref q1, .ref q2, .int 0, .long 0, .long 0])), (q1, .inl (g.2.1 1, 7, .inl (fun _ => 0))), (q2, .inl (g.2.1 1, 7, .inl (fun _ => 0)))]) X hin hW 0 ciX1 1 rfl (by decide) m_60 rfl rfl rfl rfl rfl (Nat.le_of_ble_eq_true rfl) rfl dX1_init_17 (fun H locs hW => ?_)
  exact e_v X hQ hr hW (u := [(h0, .inr (1, [.ref q1, .ref q2, .int 0, .long 0, .long 0])), (q1, .inl (g.2.1 1, 7, .inl (fun _ => 0))), (q2, .inl (g.2.1 1, 7, .inl (fun _ => 0)))]) [0, 1, 2] rfl rfl (⟨fun k => [q1, q2].getD k 0, rfl⟩) ⟨Nat.le_of_ble_eq_true rfl, Nat.le_of_ble_eq_true rfl⟩ dX1_init_20

set_option maxHeartbeats 4000000 in
set_option maxRecDepth 100000 in
theorem C_X6_initF (l : Launch) (g : GG) (h0 : Nat) : MetV l g yX6_init cX6_init 1 none 1 0 0 [.ref h0] [(h0, .inr (6, [.null, .int 0, .int 0, .int 0, .int 0]))] (fun u => u = [(h0, .inr (6, [.null, .int 0, .int 0, .int 0, .int 0]))]) := by
  refine MetV.of (own := RX6) rfl (by decide) (Nat.le_of_ble_eq_true rfl) ?_
  intro p e s m below meth c A ls args Q hQ X hr hin hW hl
  have hx := X.1
  have hb := X.2.1
  have hl : lv_has ls 1 [(0, .ref h0)] := hl
  refine lv_aload_n (pc := 0) hx hb dX6_init_0 rfl (lv_at hl 0 rfl) ?_
  refine W.objInit hx hb X.2.2.2.1 (X.2.2.2.2.1 _ m_173) (X.2.2.2.2.1 _ m_28) (X.2.2.2.2.1 _ m_29) rfl (by rw [X.2.2.1]; exact hl.1) rfl dX6_init_1 (Nat.le_of_ble_eq_true rfl) (Nat.le_of_ble_eq_true rfl) ?_
  refine W.eq (g2 := F0 m 4 ls []) rfl ?_
  exact e_v X hQ hr hW (u := [(h0, .inr (6, [.null, .int 0, .int 0, .int 0, .int 0]))]) [0] rfl rfl (rfl) ⟨Nat.le_of_ble_eq_true rfl, Nat.le_of_ble_eq_true rfl⟩ dX6_init_4

set_option maxHeartbeats 4000000 in
set_option maxRecDepth 100000 in
theorem C_X3_initF (l : Launch) (g : GG) (h0 : Nat) : MetV l g yX3_init cX3_init 1 none 1 1 5 [.ref h0] [(h0, .inr (3, [.null, .int 0, .null]))] (fun u => ∃ (q : Nat → Nat), u = [(h0, .inr (3, [.null, .int 0, .ref (q 0)])), ((q 0), .inl (g.2.1 1, 5, .inl (fun _ => 0)))]) := by
  refine MetV.of (own := RX3) rfl (by decide) (Nat.le_of_ble_eq_true rfl) ?_
  intro p e s m below meth c A ls args Q hQ X hr hin hW hl
  have hx := X.1
  have hb := X.2.1
  have hl : lv_has ls 1 [(0, .ref h0)] := hl
  refine lv_aload_n (pc := 0) hx hb dX3_init_0 rfl (lv_at hl 0 rfl) ?_
  refine W.objInit hx hb X.2.2.2.1 (X.2.2.2.2.1 _ m_195) (X.2.2.2.2.1 _ m_28) (X.2.2.2.2.1 _ m_29) rfl (by rw [X.2.2.1]; exact hl.1) rfl dX3_init_1 (Nat.le_of_ble_eq_true rfl) (Nat.le_of_ble_eq_true rfl) ?_
  refine W.eq (g2 := F0 m 4 ls []) rfl ?_
  refine lv_aload_n (pc := 4) hx hb dX3_init_4 rfl (lv_at hl 0 rfl) ?_
  refine lv_iconst (v := 5) (pc := 5) hx hb dX3_init_5 (by decide) ?_
  refine r_newa (a0 := (5, .inl (fun _ => 0))) X hW .int rfl m_47 1 rfl (by intro C h; cases h) (fun _ => rfl) (by decide) (by decide) (Nat.le_of_ble_eq_true rfl) ⟨Nat.le_of_ble_eq_true rfl, Nat.le_of_ble_eq_true rfl⟩ dX3_init_6 (fun q1 H hW => ?_)
  have hW : WD g A s _ _ [(h0, .inr (3, [.null, .int 0, .null])), (q1, .inl (g.2.1 1, 5, .inl (fun _ => 0)))] := hW
  refine r_putF (ws' := [(h0, .inr (3, [.null, .int 0, .ref q1])), (q1, .inl (g.2.1 1, 5, .inl (fun _ => 0)))]) X hin hW 0 ciX3 2 rfl (by decide) m_198 rfl rfl rfl rfl rfl (Nat.le_of_ble_eq_true rfl) rfl dX3_init_8 (fun H locs hW => ?_)
  exact e_v X hQ hr hW (u := [(h0, .inr (3, [.null, .int 0, .ref q1])), (q1, .inl (g.2.1 1, 5, .inl (fun _ => 0)))]) [0, 1] rfl rfl (⟨fun k => [q1].getD k 0, rfl⟩) ⟨Nat.le_of_ble_eq_true rfl, Nat.le_of_ble_eq_true rfl⟩ dX3_init_11

set_option maxHeartbeats 4000000 in
set_option maxRecDepth 100000 in
theorem C_X9_initF (l : Launch) (g : GG) (h0 : Nat) : MetV l g yX9_init cX9_init 1 none 1 3 8198 [.ref h0] [(h0, .inr (9, [.null, .null, .null]))] (fun u => ∃ (q : Nat → Nat), u = [(h0, .inr (9, [.ref (q 0), .ref (q 1), .ref (q 2)])), ((q 0), .inl (g.2.1 1, 4096, .inl (fun _ => 0))), ((q 1), .inl (g.2.1 1, 4096, .inl (fun _ => 0))), ((q 2), .inl (g.2.1 3, 6, .inl (fun _ => 0)))]) := by
  refine MetV.of (own := RX9) rfl (by decide) (Nat.le_of_ble_eq_true rfl) ?_
  intro p e s m below meth c A ls args Q hQ X hr hin hW hl
  have hx := X.1
  have hb := X.2.1
  have hl : lv_has ls 1 [(0, .ref h0)] := hl
  refine lv_aload_n (pc := 0) hx hb dX9_init_0 rfl (lv_at hl 0 rfl) ?_
  refine W.objInit hx hb X.2.2.2.1 (X.2.2.2.2.1 _ m_211) (X.2.2.2.2.1 _ m_28) (X.2.2.2.2.1 _ m_29) rfl (by rw [X.2.2.1]; exact hl.1) rfl dX9_init_1 (Nat.le_of_ble_eq_true rfl) (Nat.le_of_ble_eq_true rfl) ?_
  refine W.eq (g2 := F0 m 4 ls []) rfl ?_
  refine lv_aload_n (pc := 4) hx hb dX9_init_4 rfl (lv_at hl 0 rfl) ?_
  refine lv_sipush (v := 4096) (pc := 5) hx hb dX9_init_5 (by decide) ?_
  refine r_newa (a0 := (4096, .inl (fun _ => 0))) X hW .int rfl m_47 1 rfl (by intro C h; cases h) (fun _ => rfl) (by decide) (by decide) (Nat.le_of_ble_eq_true rfl) ⟨Nat.le_of_ble_eq_true rfl, Nat.le_of_ble_eq_true rfl⟩ dX9_init_8 (fun q1 H hW => ?_)
  have hW : WD g A s _ _ [(h0, .inr (9, [.null, .null, .null])), (q1, .inl (g.2.1 1, 4096, .inl (fun _ => 0)))] := hW
  refine r_put (ws' := [(h0, .inr (9, [.ref q1, .null, .null])), (q1, .inl (g.2.1 1, 4096, .inl (fun _ => 0)))]) X hW 0 ciX9 0 rfl (by decide) m_214 rfl rfl rfl rfl (Nat.le_of_ble_eq_true rfl) rfl dX9_init_10 (fun H locs hW => ?_)
  refine lv_aload_n (pc := 13) hx hb dX9_init_13 rfl (lv_at hl 0 rfl) ?_
  refine lv_sipush (v := 4096) (pc := 14) hx hb dX9_init_14 (by decide) ?_
  refine r_newa (a0 := (4096, .inl (fun _ => 0))) X hW .int rfl m_47 1 rfl (by intro C h; cases h) (fun _ => rfl) (by decide) (by decide) (Nat.le_of_ble_eq_true rfl) ⟨Nat.le_of_ble_eq_true rfl, Nat.le_of_ble_eq_true rfl⟩ dX9_init_17 (fun q2 H hW => ?_)
  have hW : WD g A s _ _ [(h0, .inr (9, [.ref q1, .null, .null])), (q1, .inl (g.2.1 1, 4096, .inl (fun _ => 0))), (q2, .inl (g.2.1 1, 4096, .inl (fun _ => 0)))] := hW
  refine r_put (ws' := [(h0, .inr (9, [.ref q1, .ref q2, .null])), (q1, .inl (g.2.1 1, 4096, .inl (fun _ => 0))), (q2, .inl (g.2.1 1, 4096, .inl (fun _ => 0)))]) X hW 0 ciX9 1 rfl (by decide) m_215 rfl rfl rfl rfl (Nat.le_of_ble_eq_true rfl) rfl dX9_init_19 (fun H locs hW => ?_)
  refine lv_aload_n (pc := 22) hx hb dX9_init_22 rfl (lv_at hl 0 rfl) ?_
  refine va_gets (pc := 23) hx hb X.2.2.2.2.2.2.1.1.1 hW.2.2 X.2.2.2.1 (X.2.2.2.2.1 _ m_212) (fun _ h9 => h9) dX9_init_23 ?_
  refine va_tlen (pc := 26) (v := 6) hx hb X.2.2.2.2.2.2.1.1.2 hW.2.2 rfl dX9_init_26 ?_
  refine r_newa (a0 := (6, .inl (fun _ => 0))) X hW .boolean rfl m_109 3 rfl (by intro C h; cases h) (fun _ => rfl) (by decide) (by decide) (Nat.le_of_ble_eq_true rfl) ⟨Nat.le_of_ble_eq_true rfl, Nat.le_of_ble_eq_true rfl⟩ dX9_init_27 (fun q3 H hW => ?_)
  have hW : WD g A s _ _ [(h0, .inr (9, [.ref q1, .ref q2, .null])), (q1, .inl (g.2.1 1, 4096, .inl (fun _ => 0))), (q2, .inl (g.2.1 1, 4096, .inl (fun _ => 0))), (q3, .inl (g.2.1 3, 6, .inl (fun _ => 0)))] := hW
  refine r_putF (ws' := [(h0, .inr (9, [.ref q1, .ref q2, .ref q3])), (q1, .inl (g.2.1 1, 4096, .inl (fun _ => 0))), (q2, .inl (g.2.1 1, 4096, .inl (fun _ => 0))), (q3, .inl (g.2.1 3, 6, .inl (fun _ => 0)))]) X hin hW 0 ciX9 2 rfl (by decide) m_216 rfl rfl rfl rfl rfl (Nat.le_of_ble_eq_true rfl) rfl dX9_init_29 (fun H locs hW => ?_)
  exact e_v X hQ hr hW (u := [(h0, .inr (9, [.ref q1, .ref q2, .ref q3])), (q1, .inl (g.2.1 1, 4096, .inl (fun _ => 0))), (q2, .inl (g.2.1 1, 4096, .inl (fun _ => 0))), (q3, .inl (g.2.1 3, 6, .inl (fun _ => 0)))]) [0, 1, 2, 3] rfl rfl (⟨fun k => [q1, q2, q3].getD k 0, rfl⟩) ⟨Nat.le_of_ble_eq_true rfl, Nat.le_of_ble_eq_true rfl⟩ dX9_init_32

set_option maxHeartbeats 4000000 in
set_option maxRecDepth 100000 in
theorem C_X0_initF (l : Launch) (g : GG) (h0 : Nat) : MetV l g yX0_init cX0_init 1 none 1 4 28 [.ref h0] [(h0, .inr (0, [.null, .int 0, .int 0, .null, .null, .null, .null]))] (fun u => ∃ (q : Nat → Nat), u = [(h0, .inr (0, [.null, .int 0, .int 0, .ref (q 0), .ref (q 1), .ref (q 2), .ref (q 3)])), ((q 0), .inl (g.2.1 1, 7, .inl (fun _ => 0))), ((q 1), .inl (g.2.1 1, 7, .inl (fun _ => 0))), ((q 2), .inl (g.2.1 1, 7, .inl (fun _ => 0))), ((q 3), .inl (g.2.1 1, 7, .inl (fun _ => 0)))]) := by
  refine MetV.of (own := RX0) rfl (by decide) (Nat.le_of_ble_eq_true rfl) ?_
  intro p e s m below meth c A ls args Q hQ X hr hin hW hl
  have hx := X.1
  have hb := X.2.1
  have hl : lv_has ls 1 [(0, .ref h0)] := hl
  refine lv_aload_n (pc := 0) hx hb dX0_init_0 rfl (lv_at hl 0 rfl) ?_
  refine W.objInit hx hb X.2.2.2.1 (X.2.2.2.2.1 _ m_229) (X.2.2.2.2.1 _ m_28) (X.2.2.2.2.1 _ m_29) rfl (by rw [X.2.2.1]; exact hl.1) rfl dX0_init_1 (Nat.le_of_ble_eq_true rfl) (Nat.le_of_ble_eq_true rfl) ?_
  refine W.eq (g2 := F0 m 4 ls []) rfl ?_
  refine lv_aload_n (pc := 4) hx hb dX0_init_4 rfl (lv_at hl 0 rfl) ?_
  refine lv_bipush (v := 7) (pc := 5) hx hb dX0_init_5 (by decide) ?_
  refine r_newa (a0 := (7, .inl (fun _ => 0))) X hW .int rfl m_47 1 rfl (by intro C h; cases h) (fun _ => rfl) (by decide) (by decide) (Nat.le_of_ble_eq_true rfl) ⟨Nat.le_of_ble_eq_true rfl, Nat.le_of_ble_eq_true rfl⟩ dX0_init_7 (fun q1 H hW => ?_)
  have hW : WD g A s _ _ [(h0, .inr (0, [.null, .int 0, .int 0, .null, .null, .null, .null])), (q1, .inl (g.2.1 1, 7, .inl (fun _ => 0)))] := hW
  refine r_putF (ws' := [(h0, .inr (0, [.null, .int 0, .int 0, .ref q1, .null, .null, .null])), (q1, .inl (g.2.1 1, 7, .inl (fun _ => 0)))]) X hin hW 0 ciX0 3 rfl (by decide) m_233 rfl rfl rfl rfl rfl (Nat.le_of_ble_eq_true rfl) rfl dX0_init_9 (fun H locs hW => ?_)
  refine lv_aload_n (pc := 12) hx hb dX0_init_12 rfl (lv_at hl 0 rfl) ?_
  refine lv_bipush (v := 7) (pc := 13) hx hb dX0_init_13 (by decide) ?_
  refine r_newa (a0 := (7, .inl (fun _ => 0))) X hW .int rfl m_47 1 rfl (by intro C h; cases h) (fun _ => rfl) (by decide) (by decide) (Nat.le_of_ble_eq_true rfl) ⟨Nat.le_of_ble_eq_true rfl, Nat.le_of_ble_eq_true rfl⟩ dX0_init_15 (fun q2 H hW => ?_)
  have hW : WD g A s _ _ [(h0, .inr (0, [.null, .int 0, .int 0, .ref q1, .null, .null, .null])), (q1, .inl (g.2.1 1, 7, .inl (fun _ => 0))), (q2, .inl (g.2.1 1, 7, .inl (fun _ => 0)))] := hW
  refine r_putF (ws' := [(h0, .inr (0, [.null, .int 0, .int 0, .ref q1, .ref q2, .null, .null])), (q1, .inl (g.2.1 1, 7, .inl (fun _ => 0))), (q2, .inl (g.2.1 1, 7, .inl (fun _ => 0)))]) X hin hW 0 ciX0 4 rfl (by decide) m_234 rfl rfl rfl rfl rfl (Nat.le_of_ble_eq_true rfl) rfl dX0_init_17 (fun H locs hW => ?_)
  refine lv_aload_n (pc := 20) hx hb dX0_init_20 rfl (lv_at hl 0 rfl) ?_
  refine lv_bipush (v := 7) (pc := 21) hx hb dX0_init_21 (by decide) ?_
  refine r_newa (a0 := (7, .inl (fun _ => 0))) X hW .int rfl m_47 1 rfl (by intro C h; cases h) (fun _ => rfl) (by decide) (by decide) (Nat.le_of_ble_eq_true rfl) ⟨Nat.le_of_ble_eq_true rfl, Nat.le_of_ble_eq_true rfl⟩ dX0_init_23 (fun q3 H hW => ?_)
  have hW : WD g A s _ _ [(h0, .inr (0, [.null, .int 0, .int 0, .ref q1, .ref q2, .null, .null])), (q1, .inl (g.2.1 1, 7, .inl (fun _ => 0))), (q2, .inl (g.2.1 1, 7, .inl (fun _ => 0))), (q3, .inl (g.2.1 1, 7, .inl (fun _ => 0)))] := hW
  refine r_putF (ws' := [(h0, .inr (0, [.null, .int 0, .int 0, .ref q1, .ref q2, .ref q3, .null])), (q1, .inl (g.2.1 1, 7, .inl (fun _ => 0))), (q2, .inl (g.2.1 1, 7, .inl (fun _ => 0))), (q3, .inl (g.2.1 1, 7, .inl (fun _ => 0)))]) X hin hW 0 ciX0 5 rfl (by decide) m_236 rfl rfl rfl rfl rfl (Nat.le_of_ble_eq_true rfl) rfl dX0_init_25 (fun H locs hW => ?_)
  refine lv_aload_n (pc := 28) hx hb dX0_init_28 rfl (lv_at hl 0 rfl) ?_
  refine lv_bipush (v := 7) (pc := 29) hx hb dX0_init_29 (by decide) ?_
  refine r_newa (a0 := (7, .inl (fun _ => 0))) X hW .int rfl m_47 1 rfl (by intro C h; cases h) (fun _ => rfl) (by decide) (by decide) (Nat.le_of_ble_eq_true rfl) ⟨Nat.le_of_ble_eq_true rfl, Nat.le_of_ble_eq_true rfl⟩ dX0_init_31 (fun q4 H hW => ?_)
  have hW : WD g A s _ _ [(h0, .inr (0, [.null, .int 0, .int 0, .ref q1, .ref q2, .ref q3, .null])), (q1, .inl (g.2.1 1, 7, .inl (fun _ => 0))), (q2, .inl (g.2.1 1, 7, .inl (fun _ => 0))), (q3, .inl (g.2.1 1, 7, .inl (fun _ => 0))), (q4, .inl (g.2.1 1, 7, .inl (fun _ => 0)))] := hW
  refine r_putF (ws' := [(h0, .inr (0, [.null, .int 0, .int 0, .ref q1, .ref q2, .ref q3, .ref q4])), (q1, .inl (g.2.1 1, 7, .inl (fun _ => 0))), (q2, .inl (g.2.1 1, 7, .inl (fun _ => 0))), (q3, .inl (g.2.1 1, 7, .inl (fun _ => 0))), (q4, .inl (g.2.1 1, 7, .inl (fun _ => 0)))]) X hin hW 0 ciX0 6 rfl (by decide) m_237 rfl rfl rfl rfl rfl (Nat.le_of_ble_eq_true rfl) rfl dX0_init_33 (fun H locs hW => ?_)
  exact e_v X hQ hr hW (u := [(h0, .inr (0, [.null, .int 0, .int 0, .ref q1, .ref q2, .ref q3, .ref q4])), (q1, .inl (g.2.1 1, 7, .inl (fun _ => 0))), (q2, .inl (g.2.1 1, 7, .inl (fun _ => 0))), (q3, .inl (g.2.1 1, 7, .inl (fun _ => 0))), (q4, .inl (g.2.1 1, 7, .inl (fun _ => 0)))]) [0, 1, 2, 3, 4] rfl rfl (⟨fun k => [q1, q2, q3, q4].getD k 0, rfl⟩) ⟨Nat.le_of_ble_eq_true rfl, Nat.le_of_ble_eq_true rfl⟩ dX0_init_36

set_option maxHeartbeats 4000000 in
set_option maxRecDepth 100000 in
theorem C_X2_initF (l : Launch) (g : GG) (h0 : Nat) : MetV l g yX2_init cX2_init 1 none 1 2 10 [.ref h0] [(h0, .inr (2, [.null, .null]))] (fun u => ∃ (q : Nat → Nat), u = [(h0, .inr (2, [.ref (q 0), .ref (q 1)])), ((q 0), .inl (g.2.1 2, 5, .inr (.inl (fun _ => 0)))), ((q 1), .inl (g.2.1 2, 5, .inr (.inl (fun _ => 0))))]) := by
  refine MetV.of (own := RX2) rfl (by decide) (Nat.le_of_ble_eq_true rfl) ?_
  intro p e s m below meth c A ls args Q hQ X hr hin hW hl
  have hx := X.1
  have hb := X.2.1
  have hl : lv_has ls 1 [(0, .ref h0)] := hl
  refine lv_aload_n (pc := 0) hx hb dX2_init_0 rfl (lv_at hl 0 rfl) ?_
  refine W.objInit hx hb X.2.2.2.1 (X.2.2.2.2.1 _ m_258) (X.2.2.2.2.1 _ m_28) (X.2.2.2.2.1 _ m_29) rfl (by rw [X.2.2.1]; exact hl.1) rfl dX2_init_1 (Nat.le_of_ble_eq_true rfl) (Nat.le_of_ble_eq_true rfl) ?_
  refine W.eq (g2 := F0 m 4 ls []) rfl ?_
  refine lv_aload_n (pc := 4) hx hb dX2_init_4 rfl (lv_at hl 0 rfl) ?_
  refine lv_iconst (v := 5) (pc := 5) hx hb dX2_init_5 (by decide) ?_
  refine r_newa (a0 := (5, .inr (.inl (fun _ => 0)))) X hW .long rfl m_266 2 rfl (by intro C h; cases h) (fun _ => rfl) (by decide) (by decide) (Nat.le_of_ble_eq_true rfl) ⟨Nat.le_of_ble_eq_true rfl, Nat.le_of_ble_eq_true rfl⟩ dX2_init_6 (fun q1 H hW => ?_)
  have hW : WD g A s _ _ [(h0, .inr (2, [.null, .null])), (q1, .inl (g.2.1 2, 5, .inr (.inl (fun _ => 0))))] := hW
  refine r_put (ws' := [(h0, .inr (2, [.ref q1, .null])), (q1, .inl (g.2.1 2, 5, .inr (.inl (fun _ => 0))))]) X hW 0 ciX2 0 rfl (by decide) m_259 rfl rfl rfl rfl (Nat.le_of_ble_eq_true rfl) rfl dX2_init_8 (fun H locs hW => ?_)
  refine lv_aload_n (pc := 11) hx hb dX2_init_11 rfl (lv_at hl 0 rfl) ?_
  refine lv_iconst (v := 5) (pc := 12) hx hb dX2_init_12 (by decide) ?_
  refine r_newa (a0 := (5, .inr (.inl (fun _ => 0)))) X hW .long rfl m_266 2 rfl (by intro C h; cases h) (fun _ => rfl) (by decide) (by decide) (Nat.le_of_ble_eq_true rfl) ⟨Nat.le_of_ble_eq_true rfl, Nat.le_of_ble_eq_true rfl⟩ dX2_init_13 (fun q2 H hW => ?_)
  have hW : WD g A s _ _ [(h0, .inr (2, [.ref q1, .null])), (q1, .inl (g.2.1 2, 5, .inr (.inl (fun _ => 0)))), (q2, .inl (g.2.1 2, 5, .inr (.inl (fun _ => 0))))] := hW
  refine r_put (ws' := [(h0, .inr (2, [.ref q1, .ref q2])), (q1, .inl (g.2.1 2, 5, .inr (.inl (fun _ => 0)))), (q2, .inl (g.2.1 2, 5, .inr (.inl (fun _ => 0))))]) X hW 0 ciX2 1 rfl (by decide) m_260 rfl rfl rfl rfl (Nat.le_of_ble_eq_true rfl) rfl dX2_init_15 (fun H locs hW => ?_)
  exact e_v X hQ hr hW (u := [(h0, .inr (2, [.ref q1, .ref q2])), (q1, .inl (g.2.1 2, 5, .inr (.inl (fun _ => 0)))), (q2, .inl (g.2.1 2, 5, .inr (.inl (fun _ => 0))))]) [0, 1, 2] rfl rfl (⟨fun k => [q1, q2].getD k 0, rfl⟩) ⟨Nat.le_of_ble_eq_true rfl, Nat.le_of_ble_eq_true rfl⟩ dX2_init_18

set_option maxHeartbeats 4000000 in
set_option maxRecDepth 100000 in
theorem C_X5_initE (l : Launch) (g : GG) (h0 : Nat) : MetVz l g yX5_init cX5_init 1 1 4 391 h0 [.ref h0] [(h0, .inr (5, [.null, .null, .null, .int 0, .null, .int 0]))] (fun u => u = [(h0, .inr (5, [.ref (h0 + 1), .ref (h0 + 2), .ref (h0 + 3), .int 0, .ref (h0 + 4), .int 0])), ((h0 + 1), .inl (g.2.1 1, 128, .inl (fun _ => 0))), ((h0 + 2), .inl (g.2.1 1, 128, .inl (fun _ => 0))), ((h0 + 3), .inl (g.2.1 3, 128, .inl (fun _ => 0))), ((h0 + 4), .inl (g.2.1 1, 7, .inl (fun _ => 0)))]) := by
  refine MetVz.of (own := RX5) rfl (by decide) (Nat.le_of_ble_eq_true rfl) ?_
  intro p e s m below meth c A ls args Q hQ X hr hin hz hW hl
  have hx := X.1
  have hb := X.2.1
  have hl : lv_has ls 1 [(0, .ref h0)] := hl
  refine lv_aload_n (pc := 0) hx hb dX5_init_0 rfl (lv_at hl 0 rfl) ?_
  refine W.objInit hx hb X.2.2.2.1 (X.2.2.2.2.1 _ m_86) (X.2.2.2.2.1 _ m_28) (X.2.2.2.2.1 _ m_29) rfl (by rw [X.2.2.1]; exact hl.1) rfl dX5_init_1 (Nat.le_of_ble_eq_true rfl) (Nat.le_of_ble_eq_true rfl) ?_
  refine W.eq (g2 := F0 m 4 ls []) rfl ?_
  refine lv_aload_n (pc := 4) hx hb dX5_init_4 rfl (lv_at hl 0 rfl) ?_
  refine lv_sipush (v := 128) (pc := 5) hx hb dX5_init_5 (by decide) ?_
  refine r_newaE (a0 := (128, .inl (fun _ => 0))) X hW hz .int rfl m_47 1 rfl (by intro C h; cases h) (fun _ => rfl) (by decide) (by decide) (Nat.le_of_ble_eq_true rfl) ⟨Nat.le_of_ble_eq_true rfl, Nat.le_of_ble_eq_true rfl⟩ dX5_init_8 (fun H hz hW => ?_)
  have hz : H.size = h0 + 2 := hz
  have hW : WD g A s _ _ [(h0, .inr (5, [.null, .null, .null, .int 0, .null, .int 0])), ((h0 + 1), .inl (g.2.1 1, 128, .inl (fun _ => 0)))] := hW
  refine r_putFE (ws' := [(h0, .inr (5, [.ref (h0 + 1), .null, .null, .int 0, .null, .int 0])), ((h0 + 1), .inl (g.2.1 1, 128, .inl (fun _ => 0)))]) X hin hW hz 0 ciX5 0 rfl (by decide) m_87 rfl rfl rfl rfl rfl (Nat.le_of_ble_eq_true rfl) rfl dX5_init_10 (fun H locs hz hW => ?_)
  refine lv_aload_n (pc := 13) hx hb dX5_init_13 rfl (lv_at hl 0 rfl) ?_
  refine lv_sipush (v := 128) (pc := 14) hx hb dX5_init_14 (by decide) ?_
  refine r_newaE (a0 := (128, .inl (fun _ => 0))) X hW hz .int rfl m_47 1 rfl (by intro C h; cases h) (fun _ => rfl) (by decide) (by decide) (Nat.le_of_ble_eq_true rfl) ⟨Nat.le_of_ble_eq_true rfl, Nat.le_of_ble_eq_true rfl⟩ dX5_init_17 (fun H hz hW => ?_)
  have hz : H.size = h0 + 3 := hz
  have hW : WD g A s _ _ [(h0, .inr (5, [.ref (h0 + 1), .null, .null, .int 0, .null, .int 0])), ((h0 + 1), .inl (g.2.1 1, 128, .inl (fun _ => 0))), ((h0 + 2), .inl (g.2.1 1, 128, .inl (fun _ => 0)))] := hW
  refine r_putFE (ws' := [(h0, .inr (5, [.ref (h0 + 1), .ref (h0 + 2), .null, .int 0, .null, .int 0])), ((h0 + 1), .inl (g.2.1 1, 128, .inl (fun _ => 0))), ((h0 + 2), .inl (g.2.1 1, 128, .inl (fun _ => 0)))]) X hin hW hz 0 ciX5 1 rfl (by decide) m_89 rfl rfl rfl rfl rfl (Nat.le_of_ble_eq_true rfl) rfl dX5_init_19 (fun H locs hz hW => ?_)
  refine lv_aload_n (pc := 22) hx hb dX5_init_22 rfl (lv_at hl 0 rfl) ?_
  refine lv_sipush (v := 128) (pc := 23) hx hb dX5_init_23 (by decide) ?_
  refine r_newaE (a0 := (128, .inl (fun _ => 0))) X hW hz .boolean rfl m_109 3 rfl (by intro C h; cases h) (fun _ => rfl) (by decide) (by decide) (Nat.le_of_ble_eq_true rfl) ⟨Nat.le_of_ble_eq_true rfl, Nat.le_of_ble_eq_true rfl⟩ dX5_init_26 (fun H hz hW => ?_)
  have hz : H.size = h0 + 4 := hz
  have hW : WD g A s _ _ [(h0, .inr (5, [.ref (h0 + 1), .ref (h0 + 2), .null, .int 0, .null, .int 0])), ((h0 + 1), .inl (g.2.1 1, 128, .inl (fun _ => 0))), ((h0 + 2), .inl (g.2.1 1, 128, .inl (fun _ => 0))), ((h0 + 3), .inl (g.2.1 3, 128, .inl (fun _ => 0)))] := hW
  refine r_putFE (ws' := [(h0, .inr (5, [.ref (h0 + 1), .ref (h0 + 2), .ref (h0 + 3), .int 0, .null, .int 0])), ((h0 + 1), .inl (g.2.1 1, 128, .inl (fun _ => 0))), ((h0 + 2), .inl (g.2.1 1, 128, .inl (fun _ => 0))), ((h0 + 3), .inl (g.2.1 3, 128, .inl (fun _ => 0)))]) X hin hW hz 0 ciX5 2 rfl (by decide) m_91 rfl rfl rfl rfl rfl (Nat.le_of_ble_eq_true rfl) rfl dX5_init_28 (fun H locs hz hW => ?_)
  refine lv_aload_n (pc := 31) hx hb dX5_init_31 rfl (lv_at hl 0 rfl) ?_
  refine lv_bipush (v := 7) (pc := 32) hx hb dX5_init_32 (by decide) ?_
  refine r_newaE (a0 := (7, .inl (fun _ => 0))) X hW hz .int rfl m_47 1 rfl (by intro C h; cases h) (fun _ => rfl) (by decide) (by decide) (Nat.le_of_ble_eq_true rfl) ⟨Nat.le_of_ble_eq_true rfl, Nat.le_of_ble_eq_true rfl⟩ dX5_init_34 (fun H hz hW => ?_)
  have hz : H.size = h0 + 5 := hz
  have hW : WD g A s _ _ [(h0, .inr (5, [.ref (h0 + 1), .ref (h0 + 2), .ref (h0 + 3), .int 0, .null, .int 0])), ((h0 + 1), .inl (g.2.1 1, 128, .inl (fun _ => 0))), ((h0 + 2), .inl (g.2.1 1, 128, .inl (fun _ => 0))), ((h0 + 3), .inl (g.2.1 3, 128, .inl (fun _ => 0))), ((h0 + 4), .inl (g.2.1 1, 7, .inl (fun _ => 0)))] := hW
  refine r_putFE (ws' := [(h0, .inr (5, [.ref (h0 + 1), .ref (h0 + 2), .ref (h0 + 3), .int 0, .ref (h0 + 4), .int 0])), ((h0 + 1), .inl (g.2.1 1, 128, .inl (fun _ => 0))), ((h0 + 2), .inl (g.2.1 1, 128, .inl (fun _ => 0))), ((h0 + 3), .inl (g.2.1 3, 128, .inl (fun _ => 0))), ((h0 + 4), .inl (g.2.1 1, 7, .inl (fun _ => 0)))]) X hin hW hz 0 ciX5 4 rfl (by decide) m_94 rfl rfl rfl rfl rfl (Nat.le_of_ble_eq_true rfl) rfl dX5_init_36 (fun H locs hz hW => ?_)
  exact e_v X hQ hr hW (u := [(h0, .inr (5, [.ref (h0 + 1), .ref (h0 + 2), .ref (h0 + 3), .int 0, .ref (h0 + 4), .int 0])), ((h0 + 1), .inl (g.2.1 1, 128, .inl (fun _ => 0))), ((h0 + 2), .inl (g.2.1 1, 128, .inl (fun _ => 0))), ((h0 + 3), .inl (g.2.1 3, 128, .inl (fun _ => 0))), ((h0 + 4), .inl (g.2.1 1, 7, .inl (fun _ => 0)))]) [0, 1, 2, 3, 4] rfl rfl (rfl) ⟨Nat.le_of_ble_eq_true rfl, Nat.le_of_ble_eq_true rfl⟩ dX5_init_39

set_option maxHeartbeats 4000000 in
set_option maxRecDepth 100000 in
theorem C_X10_initE (l : Launch) (g : GG) (h0 : Nat) : MetVz l g yX10_init cX10_init 1 1 12 364 h0 [.ref h0] [(h0, .inr (10, [.int 0, .int 0, .int 0, .null, .null, .null, .null, .null, .null, .null, .null, .null, .null, .null, .int 0, .null]))] (fun u => u = [(h0, .inr (10, [.int 0, .int 0, .int 0, .ref (h0 + 1), .ref (h0 + 2), .ref (h0 + 3), .ref (h0 + 4), .ref (h0 + 5), .ref (h0 + 6), .ref (h0 + 7), .ref (h0 + 8), .ref (h0 + 9), .ref (h0 + 10), .ref (h0 + 11), .int (-2), .ref (h0 + 12)])), ((h0 + 1), .inl (g.2.1 1, 4, .inl (fun _ => 0))), ((h0 + 2), .inl (g.2.1 1, 4, .inl (fun _ => 0))), ((h0 + 3), .inl (g.2.1 1, 4, .inl (fun _ => 0))), ((h0 + 4), .inl (g.2.1 1, 7, .inl (fun _ => 0))), ((h0 + 5), .inl (g.2.1 1, 7, .inl (fun _ => 0))), ((h0 + 6), .inl (g.2.1 1, 7, .inl (fun _ => 0))), ((h0 + 7), .inl (g.2.1 1, 72, .inl (fun _ => 0))), ((h0 + 8), .inl (g.2.1 1, 175, .inl (fun _ => 0))), ((h0 + 9), .inl (g.2.1 1, 42, .inl (fun _ => 0))), ((h0 + 10), .inl (g.2.1 1, 7, .inl (fun _ => 0))), ((h0 + 11), .inl (g.2.1 1, 28, .inl (fun _ => 0))), ((h0 + 12), .inl (g.2.1 1, 7, .inl (fun _ => 0)))]) := by
  refine MetVz.of (own := RX10) rfl (by decide) (Nat.le_of_ble_eq_true rfl) ?_
  intro p e s m below meth c A ls args Q hQ X hr hin hz hW hl
  have hx := X.1
  have hb := X.2.1
  have hl : lv_has ls 1 [(0, .ref h0)] := hl
  refine lv_aload_n (pc := 0) hx hb dX10_init_0 rfl (lv_at hl 0 rfl) ?_
  refine W.objInit hx hb X.2.2.2.1 (X.2.2.2.2.1 _ m_271) (X.2.2.2.2.1 _ m_28) (X.2.2.2.2.1 _ m_29) rfl (by rw [X.2.2.1]; exact hl.1) rfl dX10_init_1 (Nat.le_of_ble_eq_true rfl) (Nat.le_of_ble_eq_true rfl) ?_
  refine W.eq (g2 := F0 m 4 ls []) rfl ?_
  refine lv_aload_n (pc := 4) hx hb dX10_init_4 rfl (lv_at hl 0 rfl) ?_
  refine lv_iconst (v := 4) (pc := 5) hx hb dX10_init_5 (by decide) ?_
  refine r_newaE (a0 := (4, .inl (fun _ => 0))) X hW hz .int rfl m_47 1 rfl (by intro C h; cases h) (fun _ => rfl) (by decide) (by decide) (Nat.le_of_ble_eq_true rfl) ⟨Nat.le_of_ble_eq_true rfl, Nat.le_of_ble_eq_true rfl⟩ dX10_init_6 (fun H hz hW => ?_)
  have hz : H.size = h0 + 2 := hz
  have hW : WD g A s _ _ [(h0, .inr (10, [.int 0, .int 0, .int 0, .null, .null, .null, .null, .null, .null, .null, .null, .null, .null, .null, .int 0, .null])), ((h0 + 1), .inl (g.2.1 1, 4, .inl (fun _ => 0)))] := hW
  refine r_putFE (ws' := [(h0, .inr (10, [.int 0, .int 0, .int 0, .ref (h0 + 1), .null, .null, .null, .null, .null, .null, .null, .null, .null, .null, .int 0, .null])), ((h0 + 1), .inl (g.2.1 1, 4, .inl (fun _ => 0)))]) X hin hW hz 0 ciX10 3 rfl (by decide) m_291 rfl rfl rfl rfl rfl (Nat.le_of_ble_eq_true rfl) rfl dX10_init_8 (fun H locs hz hW => ?_)
  refine lv_aload_n (pc := 11) hx hb dX10_init_11 rfl (lv_at hl 0 rfl) ?_
  refine lv_iconst (v := 4) (pc := 12) hx hb dX10_init_12 (by decide) ?_
  refine r_newaE (a0 := (4, .inl (fun _ => 0))) X hW hz .int rfl m_47 1 rfl (by intro C h; cases h) (fun _ => rfl) (by decide) (by decide) (Nat.le_of_ble_eq_true rfl) ⟨Nat.le_of_ble_eq_true rfl, Nat.le_of_ble_eq_true rfl⟩ dX10_init_13 (fun H hz hW => ?_)
  have hz : H.size = h0 + 3 := hz
  have hW : WD g A s _ _ [(h0, .inr (10, [.int 0, .int 0, .int 0, .ref (h0 + 1), .null, .null, .null, .null, .null, .null, .null, .null, .null, .null, .int 0, .null])), ((h0 + 1), .inl (g.2.1 1, 4, .inl (fun _ => 0))), ((h0 + 2), .inl (g.2.1 1, 4, .inl (fun _ => 0)))] := hW
  refine r_putFE (ws' := [(h0, .inr (10, [.int 0, .int 0, .int 0, .ref (h0 + 1), .ref (h0 + 2), .null, .null, .null, .null, .null, .null, .null, .null, .null, .int 0, .null])), ((h0 + 1), .inl (g.2.1 1, 4, .inl (fun _ => 0))), ((h0 + 2), .inl (g.2.1 1, 4, .inl (fun _ => 0)))]) X hin hW hz 0 ciX10 4 rfl (by decide) m_296 rfl rfl rfl rfl rfl (Nat.le_of_ble_eq_true rfl) rfl dX10_init_15 (fun H locs hz hW => ?_)
  refine lv_aload_n (pc := 18) hx hb dX10_init_18 rfl (lv_at hl 0 rfl) ?_
  refine lv_iconst (v := 4) (pc := 19) hx hb dX10_init_19 (by decide) ?_
  refine r_newaE (a0 := (4, .inl (fun _ => 0))) X hW hz .int rfl m_47 1 rfl (by intro C h; cases h) (fun _ => rfl) (by decide) (by decide) (Nat.le_of_ble_eq_true rfl) ⟨Nat.le_of_ble_eq_true rfl, Nat.le_of_ble_eq_true rfl⟩ dX10_init_20 (fun H hz hW => ?_)
  have hz : H.size = h0 + 4 := hz
  have hW : WD g A s _ _ [(h0, .inr (10, [.int 0, .int 0, .int 0, .ref (h0 + 1), .ref (h0 + 2), .null, .null, .null, .null, .null, .null, .null, .null, .null, .int 0, .null])), ((h0 + 1), .inl (g.2.1 1, 4, .inl (fun _ => 0))), ((h0 + 2), .inl (g.2.1 1, 4, .inl (fun _ => 0))), ((h0 + 3), .inl (g.2.1 1, 4, .inl (fun _ => 0)))] := hW
  refine r_putFE (ws' := [(h0, .inr (10, [.int 0, .int 0, .int 0, .ref (h0 + 1), .ref (h0 + 2), .ref (h0 + 3), .null, .null, .null, .null, .null, .null, .null, .null, .int 0, .null])), ((h0 + 1), .inl (g.2.1 1, 4, .inl (fun _ => 0))), ((h0 + 2), .inl (g.2.1 1, 4, .inl (fun _ => 0))), ((h0 + 3), .inl (g.2.1 1, 4, .inl (fun _ => 0)))]) X hin hW hz 0 ciX10 5 rfl (by decide) m_300 rfl rfl rfl rfl rfl (Nat.le_of_ble_eq_true rfl) rfl dX10_init_22 (fun H locs hz hW => ?_)
  refine lv_aload_n (pc := 25) hx hb dX10_init_25 rfl (lv_at hl 0 rfl) ?_
  refine lv_bipush (v := 7) (pc := 26) hx hb dX10_init_26 (by decide) ?_
  refine r_newaE (a0 := (7, .inl (fun _ => 0))) X hW hz .int rfl m_47 1 rfl (by intro C h; cases h) (fun _ => rfl) (by decide) (by decide) (Nat.le_of_ble_eq_true rfl) ⟨Nat.le_of_ble_eq_true rfl, Nat.le_of_ble_eq_true rfl⟩ dX10_init_28 (fun H hz hW => ?_)
  have hz : H.size = h0 + 5 := hz
  have hW : WD g A s _ _ [(h0, .inr (10, [.int 0, .int 0, .int 0, .ref (h0 + 1), .ref (h0 + 2), .ref (h0 + 3), .null, .null, .null, .null, .null, .null, .null, .null, .int 0, .null])), ((h0 + 1), .inl (g.2.1 1, 4, .inl (fun _ => 0))), ((h0 + 2), .inl (g.2.1 1, 4, .inl (fun _ => 0))), ((h0 + 3), .inl (g.2.1 1, 4, .inl (fun _ => 0))), ((h0 + 4), .inl (g.2.1 1, 7, .inl (fun _ => 0)))] := hW
  refine r_putFE (ws' := [(h0, .inr (10, [.int 0, .int 0, .int 0, .ref (h0 + 1), .ref (h0 + 2), .ref (h0 + 3), .ref (h0 + 4), .null, .null, .null, .null, .null, .null, .null, .int 0, .null])), ((h0 + 1), .inl (g.2.1 1, 4, .inl (fun _ => 0))), ((h0 + 2), .inl (g.2.1 1, 4, .inl (fun _ => 0))), ((h0 + 3), .inl (g.2.1 1, 4, .inl (fun _ => 0))), ((h0 + 4), .inl (g.2.1 1, 7, .inl (fun _ => 0)))]) X hin hW hz 0 ciX10 6 rfl (by decide) m_304 rfl rfl rfl rfl rfl (Nat.le_of_ble_eq_true rfl) rfl dX10_init_30 (fun H locs hz hW => ?_)
  refine lv_aload_n (pc := 33) hx hb dX10_init_33 rfl (lv_at hl 0 rfl) ?_
  refine lv_bipush (v := 7) (pc := 34) hx hb dX10_init_34 (by decide) ?_
  refine r_newaE (a0 := (7, .inl (fun _ => 0))) X hW hz .int rfl m_47 1 rfl (by intro C h; cases h) (fun _ => rfl) (by decide) (by decide) (Nat.le_of_ble_eq_true rfl) ⟨Nat.le_of_ble_eq_true rfl, Nat.le_of_ble_eq_true rfl⟩ dX10_init_36 (fun H hz hW => ?_)
  have hz : H.size = h0 + 6 := hz
  have hW : WD g A s _ _ [(h0, .inr (10, [.int 0, .int 0, .int 0, .ref (h0 + 1), .ref (h0 + 2), .ref (h0 + 3), .ref (h0 + 4), .null, .null, .null, .null, .null, .null, .null, .int 0, .null])), ((h0 + 1), .inl (g.2.1 1, 4, .inl (fun _ => 0))), ((h0 + 2), .inl (g.2.1 1, 4, .inl (fun _ => 0))), ((h0 + 3), .inl (g.2.1 1, 4, .inl (fun _ => 0))), ((h0 + 4), .inl (g.2.1 1, 7, .inl (fun _ => 0))), ((h0 + 5), .inl (g.2.1 1, 7, .inl (fun _ => 0)))] := hW
  refine r_putFE (ws' := [(h0, .inr (10, [.int 0, .int 0, .int 0, .ref (h0 + 1), .ref (h0 + 2), .ref (h0 + 3), .ref (h0 + 4), .ref (h0 + 5), .null, .null, .null, .null, .null, .null, .int 0, .null])), ((h0 + 1), .inl (g.2.1 1, 4, .inl (fun _ => 0))), ((h0 + 2), .inl (g.2.1 1, 4, .inl (fun _ => 0))), ((h0 + 3), .inl (g.2.1 1, 4, .inl (fun _ => 0))), ((h0 + 4), .inl (g.2.1 1, 7, .inl (fun _ => 0))), ((h0 + 5), .inl (g.2.1 1, 7, .inl (fun _ => 0)))]) X hin hW hz 0 ciX10 7 rfl (by decide) m_306 rfl rfl rfl rfl rfl (Nat.le_of_ble_eq_true rfl) rfl dX10_init_38 (fun H locs hz hW => ?_)
  refine lv_aload_n (pc := 41) hx hb dX10_init_41 rfl (lv_at hl 0 rfl) ?_
  refine lv_bipush (v := 7) (pc := 42) hx hb dX10_init_42 (by decide) ?_
  refine r_newaE (a0 := (7, .inl (fun _ => 0))) X hW hz .int rfl m_47 1 rfl (by intro C h; cases h) (fun _ => rfl) (by decide) (by decide) (Nat.le_of_ble_eq_true rfl) ⟨Nat.le_of_ble_eq_true rfl, Nat.le_of_ble_eq_true rfl⟩ dX10_init_44 (fun H hz hW => ?_)
  have hz : H.size = h0 + 7 := hz
  have hW : WD g A s _ _ [(h0, .inr (10, [.int 0, .int 0, .int 0, .ref (h0 + 1), .ref (h0 + 2), .ref (h0 + 3), .ref (h0 + 4), .ref (h0 + 5), .null, .null, .null, .null, .null, .null, .int 0, .null])), ((h0 + 1), .inl (g.2.1 1, 4, .inl (fun _ => 0))), ((h0 + 2), .inl (g.2.1 1, 4, .inl (fun _ => 0))), ((h0 + 3), .inl (g.2.1 1, 4, .inl (fun _ => 0))), ((h0 + 4), .inl (g.2.1 1, 7, .inl (fun _ => 0))), ((h0 + 5), .inl (g.2.1 1, 7, .inl (fun _ => 0))), ((h0 + 6), .inl (g.2.1 1, 7, .inl (fun _ => 0)))] := hW
  refine r_putFE (ws' := [(h0, .inr (10, [.int 0, .int 0, .int 0, .ref (h0 + 1), .ref (h0 + 2), .ref (h0 + 3), .ref (h0 + 4), .ref (h0 + 5), .ref (h0 + 6), .null, .null, .null, .null, .null, .int 0, .null])), ((h0 + 1), .inl (g.2.1 1, 4, .inl (fun _ => 0))), ((h0 + 2), .inl (g.2.1 1, 4, .inl (fun _ => 0))), ((h0 + 3), .inl (g.2.1 1, 4, .inl (fun _ => 0))), ((h0 + 4), .inl (g.2.1 1, 7, .inl (fun _ => 0))), ((h0 + 5), .inl (g.2.1 1, 7, .inl (fun _ => 0))), ((h0 + 6), .inl (g.2.1 1, 7, .inl (fun _ => 0)))]) X hin hW hz 0 ciX10 8 rfl (by decide) m_308 rfl rfl rfl rfl rfl (Nat.le_of_ble_eq_true rfl) rfl dX10_init_46 (fun H locs hz hW => ?_)
  refine lv_aload_n (pc := 49) hx hb dX10_init_49 rfl (lv_at hl 0 rfl) ?_
  refine lv_bipush (v := 72) (pc := 50) hx hb dX10_init_50 (by decide) ?_
  refine r_newaE (a0 := (72, .inl (fun _ => 0))) X hW hz .int rfl m_47 1 rfl (by intro C h; cases h) (fun _ => rfl) (by decide) (by decide) (Nat.le_of_ble_eq_true rfl) ⟨Nat.le_of_ble_eq_true rfl, Nat.le_of_ble_eq_true rfl⟩ dX10_init_52 (fun H hz hW => ?_)
  have hz : H.size = h0 + 8 := hz
  have hW : WD g A s _ _ [(h0, .inr (10, [.int 0, .int 0, .int 0, .ref (h0 + 1), .ref (h0 + 2), .ref (h0 + 3), .ref (h0 + 4), .ref (h0 + 5), .ref (h0 + 6), .null, .null, .null, .null, .null, .int 0, .null])), ((h0 + 1), .inl (g.2.1 1, 4, .inl (fun _ => 0))), ((h0 + 2), .inl (g.2.1 1, 4, .inl (fun _ => 0))), ((h0 + 3), .inl (g.2.1 1, 4, .inl (fun _ => 0))), ((h0 + 4), .inl (g.2.1 1, 7, .inl (fun _ => 0))), ((h0 + 5), .inl (g.2.1 1, 7, .inl (fun _ => 0))), ((h0 + 6), .inl (g.2.1 1, 7, .inl (fun _ => 0))), ((h0 + 7), .inl (g.2.1 1, 72, .inl (fun _ => 0)))] := hW
  refine r_putFE (ws' := [(h0, .inr (10, [.int 0, .int 0, .int 0, .ref (h0 + 1), .ref (h0 + 2), .ref (h0 + 3), .ref (h0 + 4), .ref (h0 + 5), .ref (h0 + 6), .ref (h0 + 7), .null, .null, .null, .null, .int 0, .null])), ((h0 + 1), .inl (g.2.1 1, 4, .inl (fun _ => 0))), ((h0 + 2), .inl (g.2.1 1, 4, .inl (fun _ => 0))), ((h0 + 3), .inl (g.2.1 1, 4, .inl (fun _ => 0))), ((h0 + 4), .inl (g.2.1 1, 7, .inl (fun _ => 0))), ((h0 + 5), .inl (g.2.1 1, 7, .inl (fun _ => 0))), ((h0 + 6), .inl (g.2.1 1, 7, .inl (fun _ => 0))), ((h0 + 7), .inl (g.2.1 1, 72, .inl (fun _ => 0)))]) X hin hW hz 0 ciX10 9 rfl (by decide) m_310 rfl rfl rfl rfl rfl (Nat.le_of_ble_eq_true rfl) rfl dX10_init_54 (fun H locs hz hW => ?_)
  refine lv_aload_n (pc := 57) hx hb dX10_init_57 rfl (lv_at hl 0 rfl) ?_
  refine lv_sipush (v := 175) (pc := 58) hx hb dX10_init_58 (by decide) ?_
  refine r_newaE (a0 := (175, .inl (fun _ => 0))) X hW hz .int rfl m_47 1 rfl (by intro C h; cases h) (fun _ => rfl) (by decide) (by decide) (Nat.le_of_ble_eq_true rfl) ⟨Nat.le_of_ble_eq_true rfl, Nat.le_of_ble_eq_true rfl⟩ dX10_init_61 (fun H hz hW => ?_)
  have hz : H.size = h0 + 9 := hz
  have hW : WD g A s _ _ [(h0, .inr (10, [.int 0, .int 0, .int 0, .ref (h0 + 1), .ref (h0 + 2), .ref (h0 + 3), .ref (h0 + 4), .ref (h0 + 5), .ref (h0 + 6), .ref (h0 + 7), .null, .null, .null, .null, .int 0, .null])), ((h0 + 1), .inl (g.2.1 1, 4, .inl (fun _ => 0))), ((h0 + 2), .inl (g.2.1 1, 4, .inl (fun _ => 0))), ((h0 + 3), .inl (g.2.1 1, 4, .inl (fun _ => 0))), ((h0 + 4), .inl (g.2.1 1, 7, .inl (fun _ => 0))), ((h0 + 5), .inl (g.2.1 1, 7, .inl (fun _ => 0))), ((h0 + 6), .inl (g.2.1 1, 7, .inl (fun _ => 0))), ((h0 + 7), .inl (g.2.1 1, 72, .inl (fun _ => 0))), ((h0 + 8), .inl (g.2.1 1, 175, .inl (fun _ => 0)))] := hW
  refine r_putFE (ws' := [(h0, .inr (10, [.int 0, .int 0, .int 0, .ref (h0 + 1), .ref (h0 + 2), .ref (h0 + 3), .ref (h0 + 4), .ref (h0 + 5), .ref (h0 + 6), .ref (h0 + 7), .ref (h0 + 8), .null, .null, .null, .int 0, .null])), ((h0 + 1), .inl (g.2.1 1, 4, .inl (fun _ => 0))), ((h0 + 2), .inl (g.2.1 1, 4, .inl (fun _ => 0))), ((h0 + 3), .inl (g.2.1 1, 4, .inl (fun _ => 0))), ((h0 + 4), .inl (g.2.1 1, 7, .inl (fun _ => 0))), ((h0 + 5), .inl (g.2.1 1, 7, .inl (fun _ => 0))), ((h0 + 6), .inl (g.2.1 1, 7, .inl (fun _ => 0))), ((h0 + 7), .inl (g.2.1 1, 72, .inl (fun _ => 0))), ((h0 + 8), .inl (g.2.1 1, 175, .inl (fun _ => 0)))]) X hin hW hz 0 ciX10 10 rfl (by decide) m_311 rfl rfl rfl rfl rfl (Nat.le_of_ble_eq_true rfl) rfl dX10_init_63 (fun H locs hz hW => ?_)
  refine lv_aload_n (pc := 66) hx hb dX10_init_66 rfl (lv_at hl 0 rfl) ?_
  refine lv_bipush (v := 42) (pc := 67) hx hb dX10_init_67 (by decide) ?_
  refine r_newaE (a0 := (42, .inl (fun _ => 0))) X hW hz .int rfl m_47 1 rfl (by intro C h; cases h) (fun _ => rfl) (by decide) (by decide) (Nat.le_of_ble_eq_true rfl) ⟨Nat.le_of_ble_eq_true rfl, Nat.le_of_ble_eq_true rfl⟩ dX10_init_69 (fun H hz hW => ?_)
  have hz : H.size = h0 + 10 := hz
  have hW : WD g A s _ _ [(h0, .inr (10, [.int 0, .int 0, .int 0, .ref (h0 + 1), .ref (h0 + 2), .ref (h0 + 3), .ref (h0 + 4), .ref (h0 + 5), .ref (h0 + 6), .ref (h0 + 7), .ref (h0 + 8), .null, .null, .null, .int 0, .null])), ((h0 + 1), .inl (g.2.1 1, 4, .inl (fun _ => 0))), ((h0 + 2), .inl (g.2.1 1, 4, .inl (fun _ => 0))), ((h0 + 3), .inl (g.2.1 1, 4, .inl (fun _ => 0))), ((h0 + 4), .inl (g.2.1 1, 7, .inl (fun _ => 0))), ((h0 + 5), .inl (g.2.1 1, 7, .inl (fun _ => 0))), ((h0 + 6), .inl (g.2.1 1, 7, .inl (fun _ => 0))), ((h0 + 7), .inl (g.2.1 1, 72, .inl (fun _ => 0))), ((h0 + 8), .inl (g.2.1 1, 175, .inl (fun _ => 0))), ((h0 + 9), .inl (g.2.1 1, 42, .inl (fun _ => 0)))] := hW
  refine r_putFE (ws' := [(h0, .inr (10, [.int 0, .int 0, .int 0, .ref (h0 + 1), .ref (h0 + 2), .ref (h0 + 3), .ref (h0 + 4), .ref (h0 + 5), .ref (h0 + 6), .ref (h0 + 7), .ref (h0 + 8), .ref (h0 + 9), .null, .null, .int 0, .null])), ((h0 + 1), .inl (g.2.1 1, 4, .inl (fun _ => 0))), ((h0 + 2), .inl (g.2.1 1, 4, .inl (fun _ => 0))), ((h0 + 3), .inl (g.2.1 1, 4, .inl (fun _ => 0))), ((h0 + 4), .inl (g.2.1 1, 7, .inl (fun _ => 0))), ((h0 + 5), .inl (g.2.1 1, 7, .inl (fun _ => 0))), ((h0 + 6), .inl (g.2.1 1, 7, .inl (fun _ => 0))), ((h0 + 7), .inl (g.2.1 1, 72, .inl (fun _ => 0))), ((h0 + 8), .inl (g.2.1 1, 175, .inl (fun _ => 0))), ((h0 + 9), .inl (g.2.1 1, 42, .inl (fun _ => 0)))]) X hin hW hz 0 ciX10 11 rfl (by decide) m_312 rfl rfl rfl rfl rfl (Nat.le_of_ble_eq_true rfl) rfl dX10_init_71 (fun H locs hz hW => ?_)
  refine lv_aload_n (pc := 74) hx hb dX10_init_74 rfl (lv_at hl 0 rfl) ?_
  refine lv_bipush (v := 7) (pc := 75) hx hb dX10_init_75 (by decide) ?_
  refine r_newaE (a0 := (7, .inl (fun _ => 0))) X hW hz .int rfl m_47 1 rfl (by intro C h; cases h) (fun _ => rfl) (by decide) (by decide) (Nat.le_of_ble_eq_true rfl) ⟨Nat.le_of_ble_eq_true rfl, Nat.le_of_ble_eq_true rfl⟩ dX10_init_77 (fun H hz hW => ?_)
  have hz : H.size = h0 + 11 := hz
  have hW : WD g A s _ _ [(h0, .inr (10, [.int 0, .int 0, .int 0, .ref (h0 + 1), .ref (h0 + 2), .ref (h0 + 3), .ref (h0 + 4), .ref (h0 + 5), .ref (h0 + 6), .ref (h0 + 7), .ref (h0 + 8), .ref (h0 + 9), .null, .null, .int 0, .null])), ((h0 + 1), .inl (g.2.1 1, 4, .inl (fun _ => 0))), ((h0 + 2), .inl (g.2.1 1, 4, .inl (fun _ => 0))), ((h0 + 3), .inl (g.2.1 1, 4, .inl (fun _ => 0))), ((h0 + 4), .inl (g.2.1 1, 7, .inl (fun _ => 0))), ((h0 + 5), .inl (g.2.1 1, 7, .inl (fun _ => 0))), ((h0 + 6), .inl (g.2.1 1, 7, .inl (fun _ => 0))), ((h0 + 7), .inl (g.2.1 1, 72, .inl (fun _ => 0))), ((h0 + 8), .inl (g.2.1 1, 175, .inl (fun _ => 0))), ((h0 + 9), .inl (g.2.1 1, 42, .inl (fun _ => 0))), ((h0 + 10), .inl (g.2.1 1, 7, .inl (fun _ => 0)))] := hW
  refine r_putFE (ws' := [(h0, .inr (10, [.int 0, .int 0, .int 0, .ref (h0 + 1), .ref (h0 + 2), .ref (h0 + 3), .ref (h0 + 4), .ref (h0 + 5), .ref (h0 + 6), .ref (h0 + 7), .ref (h0 + 8), .ref (h0 + 9), .ref (h0 + 10), .null, .int 0, .null])), ((h0 + 1), .inl (g.2.1 1, 4, .inl (fun _ => 0))), ((h0 + 2), .inl (g.2.1 1, 4, .inl (fun _ => 0))), ((h0 + 3), .inl (g.2.1 1, 4, .inl (fun _ => 0))), ((h0 + 4), .inl (g.2.1 1, 7, .inl (fun _ => 0))), ((h0 + 5), .inl (g.2.1 1, 7, .inl (fun _ => 0))), ((h0 + 6), .inl (g.2.1 1, 7, .inl (fun _ => 0))), ((h0 + 7), .inl (g.2.1 1, 72, .inl (fun _ => 0))), ((h0 + 8), .inl (g.2.1 1, 175, .inl (fun _ => 0))), ((h0 + 9), .inl (g.2.1 1, 42, .inl (fun _ => 0))), ((h0 + 10), .inl (g.2.1 1, 7, .inl (fun _ => 0)))]) X hin hW hz 0 ciX10 12 rfl (by decide) m_313 rfl rfl rfl rfl rfl (Nat.le_of_ble_eq_true rfl) rfl dX10_init_79 (fun H locs hz hW => ?_)
  refine lv_aload_n (pc := 82) hx hb dX10_init_82 rfl (lv_at hl 0 rfl) ?_
  refine lv_bipush (v := 28) (pc := 83) hx hb dX10_init_83 (by decide) ?_
  refine r_newaE (a0 := (28, .inl (fun _ => 0))) X hW hz .int rfl m_47 1 rfl (by intro C h; cases h) (fun _ => rfl) (by decide) (by decide) (Nat.le_of_ble_eq_true rfl) ⟨Nat.le_of_ble_eq_true rfl, Nat.le_of_ble_eq_true rfl⟩ dX10_init_85 (fun H hz hW => ?_)
  have hz : H.size = h0 + 12 := hz
  have hW : WD g A s _ _ [(h0, .inr (10, [.int 0, .int 0, .int 0, .ref (h0 + 1), .ref (h0 + 2), .ref (h0 + 3), .ref (h0 + 4), .ref (h0 + 5), .ref (h0 + 6), .ref (h0 + 7), .ref (h0 + 8), .ref (h0 + 9), .ref (h0 + 10), .null, .int 0, .null])), ((h0 + 1), .inl (g.2.1 1, 4, .inl (fun _ => 0))), ((h0 + 2), .inl (g.2.1 1, 4, .inl (fun _ => 0))), ((h0 + 3), .inl (g.2.1 1, 4, .inl (fun _ => 0))), ((h0 + 4), .inl (g.2.1 1, 7, .inl (fun _ => 0))), ((h0 + 5), .inl (g.2.1 1, 7, .inl (fun _ => 0))), ((h0 + 6), .inl (g.2.1 1, 7, .inl (fun _ => 0))), ((h0 + 7), .inl (g.2.1 1, 72, .inl (fun _ => 0))), ((h0 + 8), .inl (g.2.1 1, 175, .inl (fun _ => 0))), ((h0 + 9), .inl (g.2.1 1, 42, .inl (fun _ => 0))), ((h0 + 10), .inl (g.2.1 1, 7, .inl (fun _ => 0))), ((h0 + 11), .inl (g.2.1 1, 28, .inl (fun _ => 0)))] := hW
  refine r_putFE (ws' := [(h0, .inr (10, [.int 0, .int 0, .int 0, .ref (h0 + 1), .ref (h0 + 2), .ref (h0 + 3), .ref (h0 + 4), .ref (h0 + 5), .ref (h0 + 6), .ref (h0 + 7), .ref (h0 + 8), .ref (h0 + 9), .ref (h0 + 10), .ref (h0 + 11), .int 0, .null])), ((h0 + 1), .inl (g.2.1 1, 4, .inl (fun _ => 0))), ((h0 + 2), .inl (g.2.1 1, 4, .inl (fun _ => 0))), ((h0 + 3), .inl (g.2.1 1, 4, .inl (fun _ => 0))), ((h0 + 4), .inl (g.2.1 1, 7, .inl (fun _ => 0))), ((h0 + 5), .inl (g.2.1 1, 7, .inl (fun _ => 0))), ((h0 + 6), .inl (g.2.1 1, 7, .inl (fun _ => 0))), ((h0 + 7), .inl (g.2.1 1, 72, .inl (fun _ => 0))), ((h0 + 8), .inl (g.2.1 1, 175, .inl (fun _ => 0))), ((h0 + 9), .inl (g.2.1 1, 42, .inl (fun _ => 0))), ((h0 + 10), .inl (g.2.1 1, 7, .inl (fun _ => 0))), ((h0 + 11), .inl (g.2.1 1, 28, .inl (fun _ => 0)))]) X hin hW hz 0 ciX10 13 rfl (by decide) m_314 rfl rfl rfl rfl rfl (Nat.le_of_ble_eq_true rfl) rfl dX10_init_87 (fun H locs hz hW => ?_)
  refine lv_aload_n (pc := 90) hx hb dX10_init_90 rfl (lv_at hl 0 rfl) ?_
  refine lv_bipush (v := (-2)) (pc := 91) hx hb dX10_init_91 (by decide) ?_
  refine r_putE (ws' := [(h0, .inr (10, [.int 0, .int 0, .int 0, .ref (h0 + 1), .ref (h0 + 2), .ref (h0 + 3), .ref (h0 + 4), .ref (h0 + 5), .ref (h0 + 6), .ref (h0 + 7), .ref (h0 + 8), .ref (h0 + 9), .ref (h0 + 10), .ref (h0 + 11), .int (-2), .null])), ((h0 + 1), .inl (g.2.1 1, 4, .inl (fun _ => 0))), ((h0 + 2), .inl (g.2.1 1, 4, .inl (fun _ => 0))), ((h0 + 3), .inl (g.2.1 1, 4, .inl (fun _ => 0))), ((h0 + 4), .inl (g.2.1 1, 7, .inl (fun _ => 0))), ((h0 + 5), .inl (g.2.1 1, 7, .inl (fun _ => 0))), ((h0 + 6), .inl (g.2.1 1, 7, .inl (fun _ => 0))), ((h0 + 7), .inl (g.2.1 1, 72, .inl (fun _ => 0))), ((h0 + 8), .inl (g.2.1 1, 175, .inl (fun _ => 0))), ((h0 + 9), .inl (g.2.1 1, 42, .inl (fun _ => 0))), ((h0 + 10), .inl (g.2.1 1, 7, .inl (fun _ => 0))), ((h0 + 11), .inl (g.2.1 1, 28, .inl (fun _ => 0)))]) X hW hz 0 ciX10 14 rfl (by decide) m_315 rfl rfl rfl rfl (Nat.le_of_ble_eq_true rfl) rfl dX10_init_93 (fun H locs hz hW => ?_)
  refine lv_aload_n (pc := 96) hx hb dX10_init_96 rfl (lv_at hl 0 rfl) ?_
  refine lv_bipush (v := 7) (pc := 97) hx hb dX10_init_97 (by decide) ?_
  refine r_newaE (a0 := (7, .inl (fun _ => 0))) X hW hz .int rfl m_47 1 rfl (by intro C h; cases h) (fun _ => rfl) (by decide) (by decide) (Nat.le_of_ble_eq_true rfl) ⟨Nat.le_of_ble_eq_true rfl, Nat.le_of_ble_eq_true rfl⟩ dX10_init_99 (fun H hz hW => ?_)
  have hz : H.size = h0 + 13 := hz
  have hW : WD g A s _ _ [(h0, .inr (10, [.int 0, .int 0, .int 0, .ref (h0 + 1), .ref (h0 + 2), .ref (h0 + 3), .ref (h0 + 4), .ref (h0 + 5), .ref (h0 + 6), .ref (h0 + 7), .ref (h0 + 8), .ref (h0 + 9), .ref (h0 + 10), .ref (h0 + 11), .int (-2), .null])), ((h0 + 1), .inl (g.2.1 1, 4, .inl (fun _ => 0))), ((h0 + 2), .inl (g.2.1 1, 4, .inl (fun _ => 0))), ((h0 + 3), .inl (g.2.1 1, 4, .inl (fun _ => 0))), ((h0 + 4), .inl (g.2.1 1, 7, .inl (fun _ => 0))), ((h0 + 5), .inl (g.2.1 1, 7, .inl (fun _ => 0))), ((h0 + 6), .inl (g.2.1 1, 7, .inl (fun _ => 0))), ((h0 + 7), .inl (g.2.1 1, 72, .inl (fun _ => 0))), ((h0 + 8), .inl (g.2.1 1, 175, .inl (fun _ => 0))), ((h0 + 9), .inl (g.2.1 1, 42, .inl (fun _ => 0))), ((h0 + 10), .inl (g.2.1 1, 7, .inl (fun _ => 0))), ((h0 + 11), .inl (g.2.1 1, 28, .inl (fun _ => 0))), ((h0 + 12), .inl (g.2.1 1, 7, .inl (fun _ => 0)))] := hW
  refine r_putFE (ws' := [(h0, .inr (10, [.int 0, .int 0, .int 0, .ref (h0 + 1), .ref (h0 + 2), .ref (h0 + 3), .ref (h0 + 4), .ref (h0 + 5), .ref (h0 + 6), .ref (h0 + 7), .ref (h0 + 8), .ref (h0 + 9), .ref (h0 + 10), .ref (h0 + 11), .int (-2), .ref (h0 + 12)])), ((h0 + 1), .inl (g.2.1 1, 4, .inl (fun _ => 0))), ((h0 + 2), .inl (g.2.1 1, 4, .inl (fun _ => 0))), ((h0 + 3), .inl (g.2.1 1, 4, .inl (fun _ => 0))), ((h0 + 4), .inl (g.2.1 1, 7, .inl (fun _ => 0))), ((h0 + 5), .inl (g.2.1 1, 7, .inl (fun _ => 0))), ((h0 + 6), .inl (g.2.1 1, 7, .inl (fun _ => 0))), ((h0 + 7), .inl (g.2.1 1, 72, .inl (fun _ => 0))), ((h0 + 8), .inl (g.2.1 1, 175, .inl (fun _ => 0))), ((h0 + 9), .inl (g.2.1 1, 42, .inl (fun _ => 0))), ((h0 + 10), .inl (g.2.1 1, 7, .inl (fun _ => 0))), ((h0 + 11), .inl (g.2.1 1, 28, .inl (fun _ => 0))), ((h0 + 12), .inl (g.2.1 1, 7, .inl (fun _ => 0)))]) X hin hW hz 0 ciX10 15 rfl (by decide) m_317 rfl rfl rfl rfl rfl (Nat.le_of_ble_eq_true rfl) rfl dX10_init_101 (fun H locs hz hW => ?_)
  exact e_v X hQ hr hW (u := [(h0, .inr (10, [.int 0, .int 0, .int 0, .ref (h0 + 1), .ref (h0 + 2), .ref (h0 + 3), .ref (h0 + 4), .ref (h0 + 5), .ref (h0 + 6), .ref (h0 + 7), .ref (h0 + 8), .ref (h0 + 9), .ref (h0 + 10), .ref (h0 + 11), .int (-2), .ref (h0 + 12)])), ((h0 + 1), .inl (g.2.1 1, 4, .inl (fun _ => 0))), ((h0 + 2), .inl (g.2.1 1, 4, .inl (fun _ => 0))), ((h0 + 3), .inl (g.2.1 1, 4, .inl (fun _ => 0))), ((h0 + 4), .inl (g.2.1 1, 7, .inl (fun _ => 0))), ((h0 + 5), .inl (g.2.1 1, 7, .inl (fun _ => 0))), ((h0 + 6), .inl (g.2.1 1, 7, .inl (fun _ => 0))), ((h0 + 7), .inl (g.2.1 1, 72, .inl (fun _ => 0))), ((h0 + 8), .inl (g.2.1 1, 175, .inl (fun _ => 0))), ((h0 + 9), .inl (g.2.1 1, 42, .inl (fun _ => 0))), ((h0 + 10), .inl (g.2.1 1, 7, .inl (fun _ => 0))), ((h0 + 11), .inl (g.2.1 1, 28, .inl (fun _ => 0))), ((h0 + 12), .inl (g.2.1 1, 7, .inl (fun _ => 0)))]) [0, 1, 2, 3, 4, 5, 6, 7, 8, 9, 10, 11, 12] rfl rfl (rfl) ⟨Nat.le_of_ble_eq_true rfl, Nat.le_of_ble_eq_true rfl⟩ dX10_init_104

set_option maxHeartbeats 4000000 in
set_option maxRecDepth 100000 in
theorem C_X4_initE (l : Launch) (g : GG) (h0 v0 : Nat) : MetVz l g yX4_init cX4_init 2 1 7 280 h0 [.ref h0, .ref v0] [(h0, .inr (4, [.null, .int 0, .null, .null, .null, .null, .null, .null, .null]))] (fun u => u = [(h0, .inr (4, [.ref v0, .int 0, .ref (h0 + 1), .ref (h0 + 2), .ref (h0 + 3), .ref (h0 + 4), .ref (h0 + 5), .ref (h0 + 6), .ref (h0 + 7)])), ((h0 + 1), .inl (g.2.1 1, 40, .inl (fun _ => 0))), ((h0 + 2), .inl (g.2.1 1, 40, .inl (fun _ => 0))), ((h0 + 3), .inl (g.2.1 1, 40, .inl (fun _ => 0))), ((h0 + 4), .inl (g.2.1 1, 40, .inl (fun _ => 0))), ((h0 + 5), .inl (g.2.1 1, 40, .inl (fun _ => 0))), ((h0 + 6), .inl (g.2.1 1, 40, .inl (fun _ => 0))), ((h0 + 7), .inl (g.2.1 1, 40, .inl (fun _ => 0)))]) := by
  refine MetVz.of (own := RX4) rfl (by decide) (Nat.le_of_ble_eq_true rfl) ?_
  intro p e s m below meth c A ls args Q hQ X hr hin hz hW hl
  have hx := X.1
  have hb := X.2.1
  have hl : lv_has ls 2 [(0, .ref h0), (1, .ref v0)] := hl
  refine lv_aload_n (pc := 0) hx hb dX4_init_0 rfl (lv_at hl 0 rfl) ?_
  refine W.objInit hx hb X.2.2.2.1 (X.2.2.2.2.1 _ m_565) (X.2.2.2.2.1 _ m_28) (X.2.2.2.2.1 _ m_29) rfl (by rw [X.2.2.1]; exact hl.1) rfl dX4_init_1 (Nat.le_of_ble_eq_true rfl) (Nat.le_of_ble_eq_true rfl) ?_
  refine W.eq (g2 := F0 m 4 ls []) rfl ?_
  refine lv_aload_n (pc := 4) hx hb dX4_init_4 rfl (lv_at hl 0 rfl) ?_
  refine lv_bipush (v := 40) (pc := 5) hx hb dX4_init_5 (by decide) ?_
  refine r_newaE (a0 := (40, .inl (fun _ => 0))) X hW hz .int rfl m_47 1 rfl (by intro C h; cases h) (fun _ => rfl) (by decide) (by decide) (Nat.le_of_ble_eq_true rfl) ⟨Nat.le_of_ble_eq_true rfl, Nat.le_of_ble_eq_true rfl⟩ dX4_init_7 (fun H hz hW => ?_)
  have hz : H.size = h0 + 2 := hz
  have hW : WD g A s _ _ [(h0, .inr (4, [.null, .int 0, .null, .null, .null, .null, .null, .null, .null])), ((h0 + 1), .inl (g.2.1 1, 40, .inl (fun _ => 0)))] := hW
  refine r_putFE (ws' := [(h0, .inr (4, [.null, .int 0, .ref (h0 + 1), .null, .null, .null, .null, .null, .null])), ((h0 + 1), .inl (g.2.1 1, 40, .inl (fun _ => 0)))]) X hin hW hz 0 ciX4 2 rfl (by decide) m_572 rfl rfl rfl rfl rfl (Nat.le_of_ble_eq_true rfl) rfl dX4_init_9 (fun H locs hz hW => ?_)
  refine lv_aload_n (pc := 12) hx hb dX4_init_12 rfl (lv_at hl 0 rfl) ?_
  refine lv_bipush (v := 40) (pc := 13) hx hb dX4_init_13 (by decide) ?_
  refine r_newaE (a0 := (40, .inl (fun _ => 0))) X hW hz .int rfl m_47 1 rfl (by intro C h; cases h) (fun _ => rfl) (by decide) (by decide) (Nat.le_of_ble_eq_true rfl) ⟨Nat.le_of_ble_eq_true rfl, Nat.le_of_ble_eq_true rfl⟩ dX4_init_15 (fun H hz hW => ?_)
  have hz : H.size = h0 + 3 := hz
  have hW : WD g A s _ _ [(h0, .inr (4, [.null, .int 0, .ref (h0 + 1), .null, .null, .null, .null, .null, .null])), ((h0 + 1), .inl (g.2.1 1, 40, .inl (fun _ => 0))), ((h0 + 2), .inl (g.2.1 1, 40, .inl (fun _ => 0)))] := hW
  refine r_putFE (ws' := [(h0, .inr (4, [.null, .int 0, .ref (h0 + 1), .ref (h0 + 2), .null, .null, .null, .null, .null])), ((h0 + 1), .inl (g.2.1 1, 40, .inl (fun _ => 0))), ((h0 + 2), .inl (g.2.1 1, 40, .inl (fun _ => 0)))]) X hin hW hz 0 ciX4 3 rfl (by decide) m_574 rfl rfl rfl rfl rfl (Nat.le_of_ble_eq_true rfl) rfl dX4_init_17 (fun H locs hz hW => ?_)
  refine lv_aload_n (pc := 20) hx hb dX4_init_20 rfl (lv_at hl 0 rfl) ?_
  refine lv_bipush (v := 40) (pc := 21) hx hb dX4_init_21 (by decide) ?_
  refine r_newaE (a0 := (40, .inl (fun _ => 0))) X hW hz .int rfl m_47 1 rfl (by intro C h; cases h) (fun _ => rfl) (by decide) (by decide) (Nat.le_of_ble_eq_true rfl) ⟨Nat.le_of_ble_eq_true rfl, Nat.le_of_ble_eq_true rfl⟩ dX4_init_23 (fun H hz hW => ?_)
  have hz : H.size = h0 + 4 := hz
  have hW : WD g A s _ _ [(h0, .inr (4, [.null, .int 0, .ref (h0 + 1), .ref (h0 + 2), .null, .null, .null, .null, .null])), ((h0 + 1), .inl (g.2.1 1, 40, .inl (fun _ => 0))), ((h0 + 2), .inl (g.2.1 1, 40, .inl (fun _ => 0))), ((h0 + 3), .inl (g.2.1 1, 40, .inl (fun _ => 0)))] := hW
  refine r_putFE (ws' := [(h0, .inr (4, [.null, .int 0, .ref (h0 + 1), .ref (h0 + 2), .ref (h0 + 3), .null, .null, .null, .null])), ((h0 + 1), .inl (g.2.1 1, 40, .inl (fun _ => 0))), ((h0 + 2), .inl (g.2.1 1, 40, .inl (fun _ => 0))), ((h0 + 3), .inl (g.2.1 1, 40, .inl (fun _ => 0)))]) X hin hW hz 0 ciX4 4 rfl (by decide) m_576 rfl rfl rfl rfl rfl (Nat.le_of_ble_eq_true rfl) rfl dX4_init_25 (fun H locs hz hW => ?_)
  refine lv_aload_n (pc := 28) hx hb dX4_init_28 rfl (lv_at hl 0 rfl) ?_
  refine lv_bipush (v := 40) (pc := 29) hx hb dX4_init_29 (by decide) ?_
  refine r_newaE (a0 := (40, .inl (fun _ => 0))) X hW hz .int rfl m_47 1 rfl (by intro C h; cases h) (fun _ => rfl) (by decide) (by decide) (Nat.le_of_ble_eq_true rfl) ⟨Nat.le_of_ble_eq_true rfl, Nat.le_of_ble_eq_true rfl⟩ dX4_init_31 (fun H hz hW => ?_)
  have hz : H.size = h0 + 5 := hz
  have hW : WD g A s _ _ [(h0, .inr (4, [.null, .int 0, .ref (h0 + 1), .ref (h0 + 2), .ref (h0 + 3), .null, .null, .null, .null])), ((h0 + 1), .inl (g.2.1 1, 40, .inl (fun _ => 0))), ((h0 + 2), .inl (g.2.1 1, 40, .inl (fun _ => 0))), ((h0 + 3), .inl (g.2.1 1, 40, .inl (fun _ => 0))), ((h0 + 4), .inl (g.2.1 1, 40, .inl (fun _ => 0)))] := hW
  refine r_putFE (ws' := [(h0, .inr (4, [.null, .int 0, .ref (h0 + 1), .ref (h0 + 2), .ref (h0 + 3), .ref (h0 + 4), .null, .null, .null])), ((h0 + 1), .inl (g.2.1 1, 40, .inl (fun _ => 0))), ((h0 + 2), .inl (g.2.1 1, 40, .inl (fun _ => 0))), ((h0 + 3), .inl (g.2.1 1, 40, .inl (fun _ => 0))), ((h0 + 4), .inl (g.2.1 1, 40, .inl (fun _ => 0)))]) X hin hW hz 0 ciX4 5 rfl (by decide) m_578 rfl rfl rfl rfl rfl (Nat.le_of_ble_eq_true rfl) rfl dX4_init_33 (fun H locs hz hW => ?_)
  refine lv_aload_n (pc := 36) hx hb dX4_init_36 rfl (lv_at hl 0 rfl) ?_
  refine lv_bipush (v := 40) (pc := 37) hx hb dX4_init_37 (by decide) ?_
  refine r_newaE (a0 := (40, .inl (fun _ => 0))) X hW hz .int rfl m_47 1 rfl (by intro C h; cases h) (fun _ => rfl) (by decide) (by decide) (Nat.le_of_ble_eq_true rfl) ⟨Nat.le_of_ble_eq_true rfl, Nat.le_of_ble_eq_true rfl⟩ dX4_init_39 (fun H hz hW => ?_)
  have hz : H.size = h0 + 6 := hz
  have hW : WD g A s _ _ [(h0, .inr (4, [.null, .int 0, .ref (h0 + 1), .ref (h0 + 2), .ref (h0 + 3), .ref (h0 + 4), .null, .null, .null])), ((h0 + 1), .inl (g.2.1 1, 40, .inl (fun _ => 0))), ((h0 + 2), .inl (g.2.1 1, 40, .inl (fun _ => 0))), ((h0 + 3), .inl (g.2.1 1, 40, .inl (fun _ => 0))), ((h0 + 4), .inl (g.2.1 1, 40, .inl (fun _ => 0))), ((h0 + 5), .inl (g.2.1 1, 40, .inl (fun _ => 0)))] := hW
  refine r_putFE (ws' := [(h0, .inr (4, [.null, .int 0, .ref (h0 + 1), .ref (h0 + 2), .ref (h0 + 3), .ref (h0 + 4), .ref (h0 + 5), .null, .null])), ((h0 + 1), .inl (g.2.1 1, 40, .inl (fun _ => 0))), ((h0 + 2), .inl (g.2.1 1, 40, .inl (fun _ => 0))), ((h0 + 3), .inl (g.2.1 1, 40, .inl (fun _ => 0))), ((h0 + 4), .inl (g.2.1 1, 40, .inl (fun _ => 0))), ((h0 + 5), .inl (g.2.1 1, 40, .inl (fun _ => 0)))]) X hin hW hz 0 ciX4 6 rfl (by decide) m_580 rfl rfl rfl rfl rfl (Nat.le_of_ble_eq_true rfl) rfl dX4_init_41 (fun H locs hz hW => ?_)
  refine lv_aload_n (pc := 44) hx hb dX4_init_44 rfl (lv_at hl 0 rfl) ?_
  refine lv_bipush (v := 40) (pc := 45) hx hb dX4_init_45 (by decide) ?_
  refine r_newaE (a0 := (40, .inl (fun _ => 0))) X hW hz .int rfl m_47 1 rfl (by intro C h; cases h) (fun _ => rfl) (by decide) (by decide) (Nat.le_of_ble_eq_true rfl) ⟨Nat.le_of_ble_eq_true rfl, Nat.le_of_ble_eq_true rfl⟩ dX4_init_47 (fun H hz hW => ?_)
  have hz : H.size = h0 + 7 := hz
  have hW : WD g A s _ _ [(h0, .inr (4, [.null, .int 0, .ref (h0 + 1), .ref (h0 + 2), .ref (h0 + 3), .ref (h0 + 4), .ref (h0 + 5), .null, .null])), ((h0 + 1), .inl (g.2.1 1, 40, .inl (fun _ => 0))), ((h0 + 2), .inl (g.2.1 1, 40, .inl (fun _ => 0))), ((h0 + 3), .inl (g.2.1 1, 40, .inl (fun _ => 0))), ((h0 + 4), .inl (g.2.1 1, 40, .inl (fun _ => 0))), ((h0 + 5), .inl (g.2.1 1, 40, .inl (fun _ => 0))), ((h0 + 6), .inl (g.2.1 1, 40, .inl (fun _ => 0)))] := hW
  refine r_putFE (ws' := [(h0, .inr (4, [.null, .int 0, .ref (h0 + 1), .ref (h0 + 2), .ref (h0 + 3), .ref (h0 + 4), .ref (h0 + 5), .ref (h0 + 6), .null])), ((h0 + 1), .inl (g.2.1 1, 40, .inl (fun _ => 0))), ((h0 + 2), .inl (g.2.1 1, 40, .inl (fun _ => 0))), ((h0 + 3), .inl (g.2.1 1, 40, .inl (fun _ => 0))), ((h0 + 4), .inl (g.2.1 1, 40, .inl (fun _ => 0))), ((h0 + 5), .inl (g.2.1 1, 40, .inl (fun _ => 0))), ((h0 + 6), .inl (g.2.1 1, 40, .inl (fun _ => 0)))]) X hin hW hz 0 ciX4 7 rfl (by decide) m_582 rfl rfl rfl rfl rfl (Nat.le_of_ble_eq_true rfl) rfl dX4_init_49 (fun H locs hz hW => ?_)
  refine lv_aload_n (pc := 52) hx hb dX4_init_52 rfl (lv_at hl 0 rfl) ?_
  refine lv_bipush (v := 40) (pc := 53) hx hb dX4_init_53 (by decide) ?_
  refine r_newaE (a0 := (40, .inl (fun _ => 0))) X hW hz .int rfl m_47 1 rfl (by intro C h; cases h) (fun _ => rfl) (by decide) (by decide) (Nat.le_of_ble_eq_true rfl) ⟨Nat.le_of_ble_eq_true rfl, Nat.le_of_ble_eq_true rfl⟩ dX4_init_55 (fun H hz hW => ?_)
  have hz : H.size = h0 + 8 := hz
  have hW : WD g A s _ _ [(h0, .inr (4, [.null, .int 0, .ref (h0 + 1), .ref (h0 + 2), .ref (h0 + 3), .ref (h0 + 4), .ref (h0 + 5), .ref (h0 + 6), .null])), ((h0 + 1), .inl (g.2.1 1, 40, .inl (fun _ => 0))), ((h0 + 2), .inl (g.2.1 1, 40, .inl (fun _ => 0))), ((h0 + 3), .inl (g.2.1 1, 40, .inl (fun _ => 0))), ((h0 + 4), .inl (g.2.1 1, 40, .inl (fun _ => 0))), ((h0 + 5), .inl (g.2.1 1, 40, .inl (fun _ => 0))), ((h0 + 6), .inl (g.2.1 1, 40, .inl (fun _ => 0))), ((h0 + 7), .inl (g.2.1 1, 40, .inl (fun _ => 0)))] := hW
  refine r_putFE (ws' := [(h0, .inr (4, [.null, .int 0, .ref (h0 + 1), .ref (h0 + 2), .ref (h0 + 3), .ref (h0 + 4), .ref (h0 + 5), .ref (h0 + 6), .ref (h0 + 7)])), ((h0 + 1), .inl (g.2.1 1, 40, .inl (fun _ => 0))), ((h0 + 2), .inl (g.2.1 1, 40, .inl (fun _ => 0))), ((h0 + 3), .inl (g.2.1 1, 40, .inl (fun _ => 0))), ((h0 + 4), .inl (g.2.1 1, 40, .inl (fun _ => 0))), ((h0 + 5), .inl (g.2.1 1, 40, .inl (fun _ => 0))), ((h0 + 6), .inl (g.2.1 1, 40, .inl (fun _ => 0))), ((h0 + 7), .inl (g.2.1 1, 40, .inl (fun _ => 0)))]) X hin hW hz 0 ciX4 8 rfl (by decide) m_585 rfl rfl rfl rfl rfl (Nat.le_of_ble_eq_true rfl) rfl dX4_init_57 (fun H locs hz hW => ?_)
  refine lv_aload_n (pc := 60) hx hb dX4_init_60 rfl (lv_at hl 0 rfl) ?_
  refine lv_aload_n (pc := 61) hx hb dX4_init_61 rfl (lv_at hl 1 rfl) ?_
  refine r_putFE (ws' := [(h0, .inr (4, [.ref v0, .int 0, .ref (h0 + 1), .ref (h0 + 2), .ref (h0 + 3), .ref (h0 + 4), .ref (h0 + 5), .ref (h0 + 6), .ref (h0 + 7)])), ((h0 + 1), .inl (g.2.1 1, 40, .inl (fun _ => 0))), ((h0 + 2), .inl (g.2.1 1, 40, .inl (fun _ => 0))), ((h0 + 3), .inl (g.2.1 1, 40, .inl (fun _ => 0))), ((h0 + 4), .inl (g.2.1 1, 40, .inl (fun _ => 0))), ((h0 + 5), .inl (g.2.1 1, 40, .inl (fun _ => 0))), ((h0 + 6), .inl (g.2.1 1, 40, .inl (fun _ => 0))), ((h0 + 7), .inl (g.2.1 1, 40, .inl (fun _ => 0)))]) X hin hW hz 0 ciX4 0 rfl (by decide) m_566 rfl rfl rfl rfl rfl (Nat.le_of_ble_eq_true rfl) rfl dX4_init_62 (fun H locs hz hW => ?_)
  exact e_v X hQ hr hW (u := [(h0, .inr (4, [.ref v0, .int 0, .ref (h0 + 1), .ref (h0 + 2), .ref (h0 + 3), .ref (h0 + 4), .ref (h0 + 5), .ref (h0 + 6), .ref (h0 + 7)])), ((h0 + 1), .inl (g.2.1 1, 40, .inl (fun _ => 0))), ((h0 + 2), .inl (g.2.1 1, 40, .inl (fun _ => 0))), ((h0 + 3), .inl (g.2.1 1, 40, .inl (fun _ => 0))), ((h0 + 4), .inl (g.2.1 1, 40, .inl (fun _ => 0))), ((h0 + 5), .inl (g.2.1 1, 40, .inl (fun _ => 0))), ((h0 + 6), .inl (g.2.1 1, 40, .inl (fun _ => 0))), ((h0 + 7), .inl (g.2.1 1, 40, .inl (fun _ => 0)))]) [0, 1, 2, 3, 4, 5, 6, 7] rfl rfl (rfl) ⟨Nat.le_of_ble_eq_true rfl, Nat.le_of_ble_eq_true rfl⟩ dX4_init_65

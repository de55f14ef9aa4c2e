/-! the facts of a line -/

noncomputable def pX10_lineFact_h0 : SPEC := (1, [vr 3, vi 0 11, vi 0 0], vi 0 6, [], [], [])
noncomputable def pX10_lineFact_h1 : SPEC := (1, [vr 3, vi 0 11, vi 1 1], vi 0 6, [], [], [])
noncomputable def pX10_lineFact_h2 : SPEC := (1, [vr 3, vi 0 11, vi 2 2], vi 0 24, [], [], [])
noncomputable def pX10_lineFact_h3 : SPEC := (1, [vr 3, vi 0 11, vi 3 3], vi 0 24, [], [], [])
noncomputable def pX10_lineFact_h4 : SPEC := (1, [vr 3, vi 0 11, vi 4 4], vi 0 1, [], [], [])
noncomputable def pX10_lineFact_h5 : SPEC := (1, [vr 3, vi 0 11, vi 5 5], vj (-1) 24, [], [], [])
set_option maxHeartbeats 4000000 in
set_option maxRecDepth 100000 in
theorem SX10_lineFact_h0 (l : Launch) (g : GG) : SM l g TS0 yX10_lineFact cX10_lineFact 3 (some .int) pX10_lineFact_h0 := by
  refine SM_hand (own := RX10) rfl (by decide) (by decide) ?_
  intro p e s m below meth c Γ As ls Q hU hV hQ X hr hI hPF hl
  have hx := X.1
  have hb := X.2.1
  obtain ⟨v1, v2, v3, rfl, w1, w2, w3⟩ := VR3 (show VR g Γ [_, _, _] As from hV)
  obtain ⟨q1, rfl, t_q1, z_q1⟩ := avi_ref rfl w1
  have t_q1 : Γ q1 = 3 := t_q1
  obtain ⟨x3, rfl, -⟩ := avi_int rfl w2
  obtain ⟨k2, rfl, lo_k2, hi_k2⟩ := avi_nn (lo := 0) (hi := 11) w2
  obtain ⟨x4, rfl, lo_x4, hi_x4⟩ := avi_int rfl w3
  have hl : lv_has ls 3 [(0, .ref q1), (1, .int (nI k2)), (2, .int x4)] := hl
  have e9 : x4 = nI 0 := Int32.toInt_inj.mp (by rw [nI_toInt (by decide)]; exact Int.le_antisymm hi_x4 lo_x4)
  subst e9
  refine lv_aload_n (pc := 0) hx hb dX10_lineFact_0 rfl (lv_at hl 0 rfl) ?_
  refine h_get (pc := 1) X hI.1 (hFX10 30 _ rfl) z_q1 ((congrArg TS0.1 t_q1).trans rfl) rfl dX10_lineFact_1 (fun vhv5 hv5 hEhv5 => ?_)
  obtain ⟨q6, rfl, t_q6, z_q6⟩ := avi_ref rfl hv5
  have t_q6 : Γ q6 = 25 := t_q6
  refine lv_iload_n (pc := 4) hx hb dX10_lineFact_4 rfl (lv_at hl 1 rfl) ?_
  refine lv_bipush (v := 6) (pc := 5) hx hb dX10_lineFact_5 (by decide) ?_
  refine lv_imul (pc := 7) hx hb dX10_lineFact_7 ?_
  refine lv_topi (fun v7 ev7 => ?_)
  obtain rfl : v7 = nI (k2 * 6) := ev7.trans (pk_mul _ _)
  refine lv_iload_n (pc := 8) hx hb dX10_lineFact_8 rfl (lv_at hl 2 rfl) ?_
  refine lv_iadd (pc := 9) hx hb dX10_lineFact_9 ?_
  refine lv_topi (fun v8 ev8 => ?_)
  obtain rfl : v8 = nI (k2 * 6 + 0) := ev8.trans (nI_add _ _)
  obtain ⟨f9, a9, b9⟩ := (hI.1.2.1 rfl).1.1 q6 (Or.inl t_q6)
  have c9 := lsp_row b9 (i := k2) (w := 0) (by omega) (by omega)
  refine h_ialdK (pc := 10) X a9 (by omega) (by decide) dX10_lineFact_10 ?_
  have z9 : avi g Γ (vi 0 6) (.int (f9 (k2 * 6 + 0))) := ⟨rfl, c9.1, c9.2⟩
  exact h_ret (pc := 11) X hI hQ hr (rk := 0) (Or.inl ⟨rfl, rfl⟩) (z9) (RO_of (z9) rfl) (Or.inl ⟨rfl, rfl, rfl⟩) dX10_lineFact_11
set_option maxHeartbeats 4000000 in
set_option maxRecDepth 100000 in
theorem SX10_lineFact_h1 (l : Launch) (g : GG) : SM l g TS0 yX10_lineFact cX10_lineFact 3 (some .int) pX10_lineFact_h1 := by
  refine SM_hand (own := RX10) rfl (by decide) (by decide) ?_
  intro p e s m below meth c Γ As ls Q hU hV hQ X hr hI hPF hl
  have hx := X.1
  have hb := X.2.1
  obtain ⟨v1, v2, v3, rfl, w1, w2, w3⟩ := VR3 (show VR g Γ [_, _, _] As from hV)
  obtain ⟨q1, rfl, t_q1, z_q1⟩ := avi_ref rfl w1
  have t_q1 : Γ q1 = 3 := t_q1
  obtain ⟨x3, rfl, -⟩ := avi_int rfl w2
  obtain ⟨k2, rfl, lo_k2, hi_k2⟩ := avi_nn (lo := 0) (hi := 11) w2
  obtain ⟨x4, rfl, lo_x4, hi_x4⟩ := avi_int rfl w3
  have hl : lv_has ls 3 [(0, .ref q1), (1, .int (nI k2)), (2, .int x4)] := hl
  have e9 : x4 = nI 1 := Int32.toInt_inj.mp (by rw [nI_toInt (by decide)]; exact Int.le_antisymm hi_x4 lo_x4)
  subst e9
  refine lv_aload_n (pc := 0) hx hb dX10_lineFact_0 rfl (lv_at hl 0 rfl) ?_
  refine h_get (pc := 1) X hI.1 (hFX10 30 _ rfl) z_q1 ((congrArg TS0.1 t_q1).trans rfl) rfl dX10_lineFact_1 (fun vhv5 hv5 hEhv5 => ?_)
  obtain ⟨q6, rfl, t_q6, z_q6⟩ := avi_ref rfl hv5
  have t_q6 : Γ q6 = 25 := t_q6
  refine lv_iload_n (pc := 4) hx hb dX10_lineFact_4 rfl (lv_at hl 1 rfl) ?_
  refine lv_bipush (v := 6) (pc := 5) hx hb dX10_lineFact_5 (by decide) ?_
  refine lv_imul (pc := 7) hx hb dX10_lineFact_7 ?_
  refine lv_topi (fun v7 ev7 => ?_)
  obtain rfl : v7 = nI (k2 * 6) := ev7.trans (pk_mul _ _)
  refine lv_iload_n (pc := 8) hx hb dX10_lineFact_8 rfl (lv_at hl 2 rfl) ?_
  refine lv_iadd (pc := 9) hx hb dX10_lineFact_9 ?_
  refine lv_topi (fun v8 ev8 => ?_)
  obtain rfl : v8 = nI (k2 * 6 + 1) := ev8.trans (nI_add _ _)
  obtain ⟨f9, a9, b9⟩ := (hI.1.2.1 rfl).1.1 q6 (Or.inl t_q6)
  have c9 := lsp_row b9 (i := k2) (w := 1) (by omega) (by omega)
  refine h_ialdK (pc := 10) X a9 (by omega) (by decide) dX10_lineFact_10 ?_
  have z9 : avi g Γ (vi 0 6) (.int (f9 (k2 * 6 + 1))) := ⟨rfl, c9.1, c9.2⟩
  exact h_ret (pc := 11) X hI hQ hr (rk := 0) (Or.inl ⟨rfl, rfl⟩) (z9) (RO_of (z9) rfl) (Or.inl ⟨rfl, rfl, rfl⟩) dX10_lineFact_11
set_option maxHeartbeats 4000000 in
set_option maxRecDepth 100000 in
theorem SX10_lineFact_h2 (l : Launch) (g : GG) : SM l g TS0 yX10_lineFact cX10_lineFact 3 (some .int) pX10_lineFact_h2 := by
  refine SM_hand (own := RX10) rfl (by decide) (by decide) ?_
  intro p e s m below meth c Γ As ls Q hU hV hQ X hr hI hPF hl
  have hx := X.1
  have hb := X.2.1
  obtain ⟨v1, v2, v3, rfl, w1, w2, w3⟩ := VR3 (show VR g Γ [_, _, _] As from hV)
  obtain ⟨q1, rfl, t_q1, z_q1⟩ := avi_ref rfl w1
  have t_q1 : Γ q1 = 3 := t_q1
  obtain ⟨x3, rfl, -⟩ := avi_int rfl w2
  obtain ⟨k2, rfl, lo_k2, hi_k2⟩ := avi_nn (lo := 0) (hi := 11) w2
  obtain ⟨x4, rfl, lo_x4, hi_x4⟩ := avi_int rfl w3
  have hl : lv_has ls 3 [(0, .ref q1), (1, .int (nI k2)), (2, .int x4)] := hl
  have e9 : x4 = nI 2 := Int32.toInt_inj.mp (by rw [nI_toInt (by decide)]; exact Int.le_antisymm hi_x4 lo_x4)
  subst e9
  refine lv_aload_n (pc := 0) hx hb dX10_lineFact_0 rfl (lv_at hl 0 rfl) ?_
  refine h_get (pc := 1) X hI.1 (hFX10 30 _ rfl) z_q1 ((congrArg TS0.1 t_q1).trans rfl) rfl dX10_lineFact_1 (fun vhv5 hv5 hEhv5 => ?_)
  obtain ⟨q6, rfl, t_q6, z_q6⟩ := avi_ref rfl hv5
  have t_q6 : Γ q6 = 25 := t_q6
  refine lv_iload_n (pc := 4) hx hb dX10_lineFact_4 rfl (lv_at hl 1 rfl) ?_
  refine lv_bipush (v := 6) (pc := 5) hx hb dX10_lineFact_5 (by decide) ?_
  refine lv_imul (pc := 7) hx hb dX10_lineFact_7 ?_
  refine lv_topi (fun v7 ev7 => ?_)
  obtain rfl : v7 = nI (k2 * 6) := ev7.trans (pk_mul _ _)
  refine lv_iload_n (pc := 8) hx hb dX10_lineFact_8 rfl (lv_at hl 2 rfl) ?_
  refine lv_iadd (pc := 9) hx hb dX10_lineFact_9 ?_
  refine lv_topi (fun v8 ev8 => ?_)
  obtain rfl : v8 = nI (k2 * 6 + 2) := ev8.trans (nI_add _ _)
  obtain ⟨f9, a9, b9⟩ := (hI.1.2.1 rfl).1.1 q6 (Or.inl t_q6)
  have c9 := lsp_row b9 (i := k2) (w := 2) (by omega) (by omega)
  refine h_ialdK (pc := 10) X a9 (by omega) (by decide) dX10_lineFact_10 ?_
  have z9 : avi g Γ (vi 0 24) (.int (f9 (k2 * 6 + 2))) := ⟨rfl, c9.1, c9.2⟩
  exact h_ret (pc := 11) X hI hQ hr (rk := 0) (Or.inl ⟨rfl, rfl⟩) (z9) (RO_of (z9) rfl) (Or.inl ⟨rfl, rfl, rfl⟩) dX10_lineFact_11
set_option maxHeartbeats 4000000 in
set_option maxRecDepth 100000 in
theorem SX10_lineFact_h3 (l : Launch) (g : GG) : SM l g TS0 yX10_lineFact cX10_lineFact 3 (some .int) pX10_lineFact_h3 := by
  refine SM_hand (own := RX10) rfl (by decide) (by decide) ?_
  intro p e s m below meth c Γ As ls Q hU hV hQ X hr hI hPF hl
  have hx := X.1
  have hb := X.2.1
  obtain ⟨v1, v2, v3, rfl, w1, w2, w3⟩ := VR3 (show VR g Γ [_, _, _] As from hV)
  obtain ⟨q1, rfl, t_q1, z_q1⟩ := avi_ref rfl w1
  have t_q1 : Γ q1 = 3 := t_q1
  obtain ⟨x3, rfl, -⟩ := avi_int rfl w2
  obtain ⟨k2, rfl, lo_k2, hi_k2⟩ := avi_nn (lo := 0) (hi := 11) w2
  obtain ⟨x4, rfl, lo_x4, hi_x4⟩ := avi_int rfl w3
  have hl : lv_has ls 3 [(0, .ref q1), (1, .int (nI k2)), (2, .int x4)] := hl
  have e9 : x4 = nI 3 := Int32.toInt_inj.mp (by rw [nI_toInt (by decide)]; exact Int.le_antisymm hi_x4 lo_x4)
  subst e9
  refine lv_aload_n (pc := 0) hx hb dX10_lineFact_0 rfl (lv_at hl 0 rfl) ?_
  refine h_get (pc := 1) X hI.1 (hFX10 30 _ rfl) z_q1 ((congrArg TS0.1 t_q1).trans rfl) rfl dX10_lineFact_1 (fun vhv5 hv5 hEhv5 => ?_)
  obtain ⟨q6, rfl, t_q6, z_q6⟩ := avi_ref rfl hv5
  have t_q6 : Γ q6 = 25 := t_q6
  refine lv_iload_n (pc := 4) hx hb dX10_lineFact_4 rfl (lv_at hl 1 rfl) ?_
  refine lv_bipush (v := 6) (pc := 5) hx hb dX10_lineFact_5 (by decide) ?_
  refine lv_imul (pc := 7) hx hb dX10_lineFact_7 ?_
  refine lv_topi (fun v7 ev7 => ?_)
  obtain rfl : v7 = nI (k2 * 6) := ev7.trans (pk_mul _ _)
  refine lv_iload_n (pc := 8) hx hb dX10_lineFact_8 rfl (lv_at hl 2 rfl) ?_
  refine lv_iadd (pc := 9) hx hb dX10_lineFact_9 ?_
  refine lv_topi (fun v8 ev8 => ?_)
  obtain rfl : v8 = nI (k2 * 6 + 3) := ev8.trans (nI_add _ _)
  obtain ⟨f9, a9, b9⟩ := (hI.1.2.1 rfl).1.1 q6 (Or.inl t_q6)
  have c9 := lsp_row b9 (i := k2) (w := 3) (by omega) (by omega)
  refine h_ialdK (pc := 10) X a9 (by omega) (by decide) dX10_lineFact_10 ?_
  have z9 : avi g Γ (vi 0 24) (.int (f9 (k2 * 6 + 3))) := ⟨rfl, c9.1, c9.2⟩
  exact h_ret (pc := 11) X hI hQ hr (rk := 0) (Or.inl ⟨rfl, rfl⟩) (z9) (RO_of (z9) rfl) (Or.inl ⟨rfl, rfl, rfl⟩) dX10_lineFact_11
set_option maxHeartbeats 4000000 in
set_option maxRecDepth 100000 in
theorem SX10_lineFact_h4 (l : Launch) (g : GG) : SM l g TS0 yX10_lineFact cX10_lineFact 3 (some .int) pX10_lineFact_h4 := by
  refine SM_hand (own := RX10) rfl (by decide) (by decide) ?_
  intro p e s m below meth c Γ As ls Q hU hV hQ X hr hI hPF hl
  have hx := X.1
  have hb := X.2.1
  obtain ⟨v1, v2, v3, rfl, w1, w2, w3⟩ := VR3 (show VR g Γ [_, _, _] As from hV)
  obtain ⟨q1, rfl, t_q1, z_q1⟩ := avi_ref rfl w1
  have t_q1 : Γ q1 = 3 := t_q1
  obtain ⟨x3, rfl, -⟩ := avi_int rfl w2
  obtain ⟨k2, rfl, lo_k2, hi_k2⟩ := avi_nn (lo := 0) (hi := 11) w2
  obtain ⟨x4, rfl, lo_x4, hi_x4⟩ := avi_int rfl w3
  have hl : lv_has ls 3 [(0, .ref q1), (1, .int (nI k2)), (2, .int x4)] := hl
  have e9 : x4 = nI 4 := Int32.toInt_inj.mp (by rw [nI_toInt (by decide)]; exact Int.le_antisymm hi_x4 lo_x4)
  subst e9
  refine lv_aload_n (pc := 0) hx hb dX10_lineFact_0 rfl (lv_at hl 0 rfl) ?_
  refine h_get (pc := 1) X hI.1 (hFX10 30 _ rfl) z_q1 ((congrArg TS0.1 t_q1).trans rfl) rfl dX10_lineFact_1 (fun vhv5 hv5 hEhv5 => ?_)
  obtain ⟨q6, rfl, t_q6, z_q6⟩ := avi_ref rfl hv5
  have t_q6 : Γ q6 = 25 := t_q6
  refine lv_iload_n (pc := 4) hx hb dX10_lineFact_4 rfl (lv_at hl 1 rfl) ?_
  refine lv_bipush (v := 6) (pc := 5) hx hb dX10_lineFact_5 (by decide) ?_
  refine lv_imul (pc := 7) hx hb dX10_lineFact_7 ?_
  refine lv_topi (fun v7 ev7 => ?_)
  obtain rfl : v7 = nI (k2 * 6) := ev7.trans (pk_mul _ _)
  refine lv_iload_n (pc := 8) hx hb dX10_lineFact_8 rfl (lv_at hl 2 rfl) ?_
  refine lv_iadd (pc := 9) hx hb dX10_lineFact_9 ?_
  refine lv_topi (fun v8 ev8 => ?_)
  obtain rfl : v8 = nI (k2 * 6 + 4) := ev8.trans (nI_add _ _)
  obtain ⟨f9, a9, b9⟩ := (hI.1.2.1 rfl).1.1 q6 (Or.inl t_q6)
  have c9 := lsp_row b9 (i := k2) (w := 4) (by omega) (by omega)
  refine h_ialdK (pc := 10) X a9 (by omega) (by decide) dX10_lineFact_10 ?_
  have z9 : avi g Γ (vi 0 1) (.int (f9 (k2 * 6 + 4))) := ⟨rfl, c9.1, c9.2⟩
  exact h_ret (pc := 11) X hI hQ hr (rk := 0) (Or.inl ⟨rfl, rfl⟩) (z9) (RO_of (z9) rfl) (Or.inl ⟨rfl, rfl, rfl⟩) dX10_lineFact_11
set_option maxHeartbeats 4000000 in
set_option maxRecDepth 100000 in
theorem SX10_lineFact_h5 (l : Launch) (g : GG) : SM l g TS0 yX10_lineFact cX10_lineFact 3 (some .int) pX10_lineFact_h5 := by
  refine SM_hand (own := RX10) rfl (by decide) (by decide) ?_
  intro p e s m below meth c Γ As ls Q hU hV hQ X hr hI hPF hl
  have hx := X.1
  have hb := X.2.1
  obtain ⟨v1, v2, v3, rfl, w1, w2, w3⟩ := VR3 (show VR g Γ [_, _, _] As from hV)
  obtain ⟨q1, rfl, t_q1, z_q1⟩ := avi_ref rfl w1
  have t_q1 : Γ q1 = 3 := t_q1
  obtain ⟨x3, rfl, -⟩ := avi_int rfl w2
  obtain ⟨k2, rfl, lo_k2, hi_k2⟩ := avi_nn (lo := 0) (hi := 11) w2
  obtain ⟨x4, rfl, lo_x4, hi_x4⟩ := avi_int rfl w3
  have hl : lv_has ls 3 [(0, .ref q1), (1, .int (nI k2)), (2, .int x4)] := hl
  have e9 : x4 = nI 5 := Int32.toInt_inj.mp (by rw [nI_toInt (by decide)]; exact Int.le_antisymm hi_x4 lo_x4)
  subst e9
  refine lv_aload_n (pc := 0) hx hb dX10_lineFact_0 rfl (lv_at hl 0 rfl) ?_
  refine h_get (pc := 1) X hI.1 (hFX10 30 _ rfl) z_q1 ((congrArg TS0.1 t_q1).trans rfl) rfl dX10_lineFact_1 (fun vhv5 hv5 hEhv5 => ?_)
  obtain ⟨q6, rfl, t_q6, z_q6⟩ := avi_ref rfl hv5
  have t_q6 : Γ q6 = 25 := t_q6
  refine lv_iload_n (pc := 4) hx hb dX10_lineFact_4 rfl (lv_at hl 1 rfl) ?_
  refine lv_bipush (v := 6) (pc := 5) hx hb dX10_lineFact_5 (by decide) ?_
  refine lv_imul (pc := 7) hx hb dX10_lineFact_7 ?_
  refine lv_topi (fun v7 ev7 => ?_)
  obtain rfl : v7 = nI (k2 * 6) := ev7.trans (pk_mul _ _)
  refine lv_iload_n (pc := 8) hx hb dX10_lineFact_8 rfl (lv_at hl 2 rfl) ?_
  refine lv_iadd (pc := 9) hx hb dX10_lineFact_9 ?_
  refine lv_topi (fun v8 ev8 => ?_)
  obtain rfl : v8 = nI (k2 * 6 + 5) := ev8.trans (nI_add _ _)
  obtain ⟨f9, a9, b9⟩ := (hI.1.2.1 rfl).1.1 q6 (Or.inl t_q6)
  have c9 := lsp_row b9 (i := k2) (w := 5) (by omega) (by omega)
  refine h_ialdK (pc := 10) X a9 (by omega) (by decide) dX10_lineFact_10 ?_
  have z9 : avi g Γ (vj (-1) 24) (.int (f9 (k2 * 6 + 5))) := ⟨rfl, c9.1, c9.2⟩
  exact h_ret (pc := 11) X hI hQ hr (rk := 0) (Or.inl ⟨rfl, rfl⟩) (z9) (RO_of (z9) rfl) (Or.inl ⟨rfl, rfl, rfl⟩) dX10_lineFact_11

/-! a line goes down -/
theorem m_539 : (Cond.code yX10_setDown prog_12_method_17_code 3 (Option.none : Option Jvm.ClassFile.FieldType)) ∈ BW := bw (tb3 59 (by decide +kernel)) (by decide +kernel)
theorem dX10_setDown_0 : decode cX10_setDown 0 = .ok (.aload_n 0, 1) := by decide +kernel
theorem dX10_setDown_1 : decode cX10_setDown 1 = .ok (.getfield 30, 3) := by decide +kernel
theorem dX10_setDown_4 : decode cX10_setDown 4 = .ok (.iload_n 1, 1) := by decide +kernel
theorem dX10_setDown_5 : decode cX10_setDown 5 = .ok (.bipush 6, 2) := by decide +kernel
theorem dX10_setDown_7 : decode cX10_setDown 7 = .ok (.imul, 1) := by decide +kernel
theorem dX10_setDown_8 : decode cX10_setDown 8 = .ok (.iconst 5, 1) := by decide +kernel
theorem dX10_setDown_9 : decode cX10_setDown 9 = .ok (.iadd, 1) := by decide +kernel
theorem dX10_setDown_10 : decode cX10_setDown 10 = .ok (.iload_n 2, 1) := by decide +kernel
theorem dX10_setDown_11 : decode cX10_setDown 11 = .ok (.iastore, 1) := by decide +kernel
theorem dX10_setDown_12 : decode cX10_setDown 12 = .ok (.aload_n 0, 1) := by decide +kernel
theorem dX10_setDown_13 : decode cX10_setDown 13 = .ok (.invokevirtual 73, 3) := by decide +kernel
theorem dX10_setDown_16 : decode cX10_setDown 16 = .ok (.return_, 1) := by decide +kernel
noncomputable def pX10_setDown_h0 : SPEC := (6, [vr 3, vi 0 11, vj (-1) 24], vk 7, [], [(25, 0), (26, 0)], [])
set_option maxHeartbeats 4000000 in
set_option maxRecDepth 100000 in
theorem SX10_setDown_h0 (l : Launch) (g : GG) : SM l g TS0 yX10_setDown cX10_setDown 3 none pX10_setDown_h0 := by
  refine SM_hand (own := RX10) rfl (by decide) (by decide) ?_
  intro p e s m below meth c Γ As ls Q hU hV hQ X hr hI hPF hl
  have hx := X.1
  have hb := X.2.1
  obtain ⟨v1, v2, v3, rfl, w1, w2, w3⟩ := VR3 (show VR g Γ [_, _, _] As from hV)
  obtain ⟨q1, rfl, t_q1, z_q1⟩ := avi_ref rfl w1
  have t_q1 : Γ q1 = 3 := t_q1
  obtain ⟨x3, rfl, -⟩ := avi_int rfl w2
  obtain ⟨k2, rfl, lo_k2, hi_k2⟩ := avi_nn (lo := 0) (hi := 11) w2
  obtain ⟨x4, rfl, lo_x4, hi_x4⟩ := avi_int rfl w3
  have lo_x4 : (-1 : Int) ≤ x4.toInt := lo_x4
  have hi_x4 : x4.toInt ≤ (24 : Int) := hi_x4
  have hl : lv_has ls 3 [(0, .ref q1), (1, .int (nI k2)), (2, .int x4)] := hl
  refine lv_aload_n (pc := 0) hx hb dX10_setDown_0 rfl (lv_at hl 0 rfl) ?_
  refine h_get (pc := 1) X hI.1 (hFX10 30 _ rfl) z_q1 ((congrArg TS0.1 t_q1).trans rfl) rfl dX10_setDown_1 (fun vhv5 hv5 hEhv5 => ?_)
  obtain ⟨q6, rfl, t_q6, z_q6⟩ := avi_ref rfl hv5
  have t_q6 : Γ q6 = 25 := t_q6
  refine lv_iload_n (pc := 4) hx hb dX10_setDown_4 rfl (lv_at hl 1 rfl) ?_
  refine lv_bipush (v := 6) (pc := 5) hx hb dX10_setDown_5 (by decide) ?_
  refine lv_imul (pc := 7) hx hb dX10_setDown_7 ?_
  refine lv_topi (fun v7 ev7 => ?_)
  obtain rfl : v7 = nI (k2 * 6) := ev7.trans (pk_mul _ _)
  refine lv_iconst (v := 5) (pc := 8) hx hb dX10_setDown_8 (by decide) ?_
  refine lv_iadd (pc := 9) hx hb dX10_setDown_9 ?_
  refine lv_topi (fun v8 ev8 => ?_)
  obtain rfl : v8 = nI (k2 * 6 + 5) := ev8.trans (nI_add _ _)
  refine lv_iload_n (pc := 10) hx hb dX10_setDown_10 rfl (lv_at hl 2 rfl) ?_
  refine h_stoL (pc := 11) X hI t_q6 (i := k2) (by omega) lo_x4 hi_x4 (by decide) dX10_setDown_11 (fun H locs hI hUn => ?_)
  refine lv_aload_n (pc := 12) hx hb dX10_setDown_12 rfl (lv_at hl 0 rfl) ?_
  refine h_call (pc := 13) (dd := 6) (avs := [.ref q1]) (rs := []) X hI (COV (SX10_lookAtLines_0 l g) (by decide) vX10_73 rfl) ⟨Nat.le_refl _, Nat.le_refl _, Nat.le_refl _, Nat.le_refl _⟩ (by decide) hl.1 rfl rfl hU no_pf ⟨av_r t_q1 z_q1, trivial⟩ (fun _ => ⟨_, _, _, rfl, z_q1, (congrArg TS0.1 t_q1).trans rfl⟩) (md_sub (by decide)) (Nat.le_of_ble_eq_true rfl) dX10_setDown_13 (fun vr H locs hro hI hUn => ?_)
  obtain rfl := RO_none rfl hro
  exact h_vret (pc := 16) X hI hQ hr (Or.inr (Or.inr (Or.inr (Or.inl ⟨rfl, rfl⟩)))) rfl dX10_setDown_16
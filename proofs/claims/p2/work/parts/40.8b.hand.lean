/-! a call is carried -/
theorem m_660 : (Cond.code yX1_carryCall prog_3_method_4_code 10 (Option.some FieldType.boolean)) ∈ BW := bw (tb3 180 (by decide +kernel)) (by decide +kernel)
theorem dX1_carryCall_0 : decode cX1_carryCall 0 = .ok (.aload_n 1, 1) := by decide +kernel
theorem dX1_carryCall_1 : decode cX1_carryCall 1 = .ok (.getfield 61, 3) := by decide +kernel
theorem dX1_carryCall_4 : decode cX1_carryCall 4 = .ok (.iload_n 2, 1) := by decide +kernel
theorem dX1_carryCall_5 : decode cX1_carryCall 5 = .ok (.iaload, 1) := by decide +kernel
theorem dX1_carryCall_6 : decode cX1_carryCall 6 = .ok (.istore 4, 2) := by decide +kernel
theorem dX1_carryCall_8 : decode cX1_carryCall 8 = .ok (.iload 4, 2) := by decide +kernel
theorem dX1_carryCall_10 : decode cX1_carryCall 10 = .ok (.iload_n 3, 1) := by decide +kernel
theorem dX1_carryCall_11 : decode cX1_carryCall 11 = .ok (.if_icmp .ne 5, 3) := by decide +kernel
theorem dX1_carryCall_16 : decode cX1_carryCall 16 = .ok (.aload_n 1, 1) := by decide +kernel
theorem dX1_carryCall_17 : decode cX1_carryCall 17 = .ok (.getfield 64, 3) := by decide +kernel
theorem dX1_carryCall_20 : decode cX1_carryCall 20 = .ok (.iload_n 2, 1) := by decide +kernel
theorem dX1_carryCall_21 : decode cX1_carryCall 21 = .ok (.iaload, 1) := by decide +kernel
theorem dX1_carryCall_22 : decode cX1_carryCall 22 = .ok (.iconst 3, 1) := by decide +kernel
theorem dX1_carryCall_23 : decode cX1_carryCall 23 = .ok (.if_icmp .ne 17, 3) := by decide +kernel
theorem dX1_carryCall_40 : decode cX1_carryCall 40 = .ok (.aload_n 1, 1) := by decide +kernel
theorem dX1_carryCall_41 : decode cX1_carryCall 41 = .ok (.getfield 74, 3) := by decide +kernel
theorem dX1_carryCall_44 : decode cX1_carryCall 44 = .ok (.iload_n 2, 1) := by decide +kernel
theorem dX1_carryCall_45 : decode cX1_carryCall 45 = .ok (.iaload, 1) := by decide +kernel
theorem dX1_carryCall_46 : decode cX1_carryCall 46 = .ok (.istore 5, 2) := by decide +kernel
theorem dX1_carryCall_48 : decode cX1_carryCall 48 = .ok (.iload 5, 2) := by decide +kernel
theorem dX1_carryCall_50 : decode cX1_carryCall 50 = .ok (.iload_n 3, 1) := by decide +kernel
theorem dX1_carryCall_51 : decode cX1_carryCall 51 = .ok (.if_icmp .ne 5, 3) := by decide +kernel
theorem dX1_carryCall_56 : decode cX1_carryCall 56 = .ok (.aload_n 0, 1) := by decide +kernel
theorem dX1_carryCall_57 : decode cX1_carryCall 57 = .ok (.getfield 9, 3) := by decide +kernel
theorem dX1_carryCall_60 : decode cX1_carryCall 60 = .ok (.iload 4, 2) := by decide +kernel
theorem dX1_carryCall_62 : decode cX1_carryCall 62 = .ok (.iaload, 1) := by decide +kernel
theorem dX1_carryCall_63 : decode cX1_carryCall 63 = .ok (.istore 6, 2) := by decide +kernel
theorem dX1_carryCall_65 : decode cX1_carryCall 65 = .ok (.aload_n 0, 1) := by decide +kernel
theorem dX1_carryCall_66 : decode cX1_carryCall 66 = .ok (.getfield 9, 3) := by decide +kernel
theorem dX1_carryCall_69 : decode cX1_carryCall 69 = .ok (.iload 5, 2) := by decide +kernel
theorem dX1_carryCall_71 : decode cX1_carryCall 71 = .ok (.iaload, 1) := by decide +kernel
theorem dX1_carryCall_72 : decode cX1_carryCall 72 = .ok (.istore 7, 2) := by decide +kernel
theorem dX1_carryCall_74 : decode cX1_carryCall 74 = .ok (.aload_n 1, 1) := by decide +kernel
theorem dX1_carryCall_75 : decode cX1_carryCall 75 = .ok (.getfield 64, 3) := by decide +kernel
theorem dX1_carryCall_78 : decode cX1_carryCall 78 = .ok (.iload_n 2, 1) := by decide +kernel
theorem dX1_carryCall_79 : decode cX1_carryCall 79 = .ok (.iaload, 1) := by decide +kernel
theorem dX1_carryCall_80 : decode cX1_carryCall 80 = .ok (.tableswitch 103 0 4 #[36, 103, 72, 103, 81], 36) := by decide +kernel
theorem dX1_carryCall_116 : decode cX1_carryCall 116 = .ok (.aload_n 0, 1) := by decide +kernel
theorem dX1_carryCall_117 : decode cX1_carryCall 117 = .ok (.iload 5, 2) := by decide +kernel
theorem dX1_carryCall_119 : decode cX1_carryCall 119 = .ok (.iload 6, 2) := by decide +kernel
theorem dX1_carryCall_121 : decode cX1_carryCall 121 = .ok (.invokevirtual 77, 3) := by decide +kernel
theorem dX1_carryCall_124 : decode cX1_carryCall 124 = .ok (.istore 8, 2) := by decide +kernel
theorem dX1_carryCall_126 : decode cX1_carryCall 126 = .ok (.aload_n 0, 1) := by decide +kernel
theorem dX1_carryCall_127 : decode cX1_carryCall 127 = .ok (.iload 4, 2) := by decide +kernel
theorem dX1_carryCall_129 : decode cX1_carryCall 129 = .ok (.iload 7, 2) := by decide +kernel
theorem dX1_carryCall_131 : decode cX1_carryCall 131 = .ok (.invokevirtual 77, 3) := by decide +kernel
theorem dX1_carryCall_134 : decode cX1_carryCall 134 = .ok (.istore 9, 2) := by decide +kernel
theorem dX1_carryCall_136 : decode cX1_carryCall 136 = .ok (.iload 8, 2) := by decide +kernel
theorem dX1_carryCall_138 : decode cX1_carryCall 138 = .ok (.ifCond .ne 8, 3) := by decide +kernel
theorem dX1_carryCall_146 : decode cX1_carryCall 146 = .ok (.iconst 1, 1) := by decide +kernel
theorem dX1_carryCall_147 : decode cX1_carryCall 147 = .ok (.goto 4, 3) := by decide +kernel
theorem dX1_carryCall_151 : decode cX1_carryCall 151 = .ok (.ireturn, 1) := by decide +kernel
theorem dX1_carryCall_141 : decode cX1_carryCall 141 = .ok (.iload 9, 2) := by decide +kernel
theorem dX1_carryCall_143 : decode cX1_carryCall 143 = .ok (.ifCond .eq 7, 3) := by decide +kernel
theorem dX1_carryCall_150 : decode cX1_carryCall 150 = .ok (.iconst 0, 1) := by decide +kernel
theorem dX1_carryCall_183 : decode cX1_carryCall 183 = .ok (.aload_n 0, 1) := by decide +kernel
theorem dX1_carryCall_184 : decode cX1_carryCall 184 = .ok (.iload 5, 2) := by decide +kernel
theorem dX1_carryCall_186 : decode cX1_carryCall 186 = .ok (.iload 6, 2) := by decide +kernel
theorem dX1_carryCall_188 : decode cX1_carryCall 188 = .ok (.invokevirtual 77, 3) := by decide +kernel
theorem dX1_carryCall_191 : decode cX1_carryCall 191 = .ok (.ireturn, 1) := by decide +kernel
theorem dX1_carryCall_152 : decode cX1_carryCall 152 = .ok (.aload_n 0, 1) := by decide +kernel
theorem dX1_carryCall_153 : decode cX1_carryCall 153 = .ok (.iload 4, 2) := by decide +kernel
theorem dX1_carryCall_155 : decode cX1_carryCall 155 = .ok (.iload 7, 2) := by decide +kernel
theorem dX1_carryCall_157 : decode cX1_carryCall 157 = .ok (.invokevirtual 77, 3) := by decide +kernel
theorem dX1_carryCall_160 : decode cX1_carryCall 160 = .ok (.ireturn, 1) := by decide +kernel
theorem dX1_carryCall_161 : decode cX1_carryCall 161 = .ok (.aload_n 0, 1) := by decide +kernel
theorem dX1_carryCall_162 : decode cX1_carryCall 162 = .ok (.iload 5, 2) := by decide +kernel
theorem dX1_carryCall_164 : decode cX1_carryCall 164 = .ok (.iload 6, 2) := by decide +kernel
theorem dX1_carryCall_166 : decode cX1_carryCall 166 = .ok (.aload_n 1, 1) := by decide +kernel
theorem dX1_carryCall_167 : decode cX1_carryCall 167 = .ok (.getfield 27, 3) := by decide +kernel
theorem dX1_carryCall_170 : decode cX1_carryCall 170 = .ok (.getfield 81, 3) := by decide +kernel
theorem dX1_carryCall_173 : decode cX1_carryCall 173 = .ok (.iload 5, 2) := by decide +kernel
theorem dX1_carryCall_175 : decode cX1_carryCall 175 = .ok (.iaload, 1) := by decide +kernel
theorem dX1_carryCall_176 : decode cX1_carryCall 176 = .ok (.iconst (-1), 1) := by decide +kernel
theorem dX1_carryCall_177 : decode cX1_carryCall 177 = .ok (.ixor, 1) := by decide +kernel
theorem dX1_carryCall_178 : decode cX1_carryCall 178 = .ok (.iand, 1) := by decide +kernel
theorem dX1_carryCall_179 : decode cX1_carryCall 179 = .ok (.invokevirtual 77, 3) := by decide +kernel
theorem dX1_carryCall_182 : decode cX1_carryCall 182 = .ok (.ireturn, 1) := by decide +kernel
theorem dX1_carryCall_54 : decode cX1_carryCall 54 = .ok (.iconst 0, 1) := by decide +kernel
theorem dX1_carryCall_55 : decode cX1_carryCall 55 = .ok (.ireturn, 1) := by decide +kernel
theorem dX1_carryCall_26 : decode cX1_carryCall 26 = .ok (.aload_n 0, 1) := by decide +kernel
theorem dX1_carryCall_27 : decode cX1_carryCall 27 = .ok (.iload 4, 2) := by decide +kernel
theorem dX1_carryCall_29 : decode cX1_carryCall 29 = .ok (.aload_n 1, 1) := by decide +kernel
theorem dX1_carryCall_30 : decode cX1_carryCall 30 = .ok (.getfield 67, 3) := by decide +kernel
theorem dX1_carryCall_33 : decode cX1_carryCall 33 = .ok (.iload_n 2, 1) := by decide +kernel
theorem dX1_carryCall_34 : decode cX1_carryCall 34 = .ok (.iaload, 1) := by decide +kernel
theorem dX1_carryCall_35 : decode cX1_carryCall 35 = .ok (.iload_n 3, 1) := by decide +kernel
theorem m_661 : (Cond.methodLink "NoonValley$Carrying" 70 yX1_shout) ∈ BW := bw (tb3 181 (by decide +kernel)) (by decide +kernel)
theorem m_664 : (Cond.code yX1_shout prog_3_method_5_code 6 (Option.some FieldType.boolean)) ∈ BW := bw (tb3 184 (by decide +kernel)) (by decide +kernel)
theorem m_663 : (Cond.instanceMethod yX1_shout) ∈ BW := bw (tb3 183 (by decide +kernel)) (by decide +kernel)
theorem s_1_14 : (Cond.selects RX1 yX1_shout yX1_shout) ∈ BW := bw (sl1 (y := yX1_shout) (n := 5) 14 (by decide +kernel)) (by decide +kernel)
theorem vX1_70 : LV RX1 70 RX1 yX1_shout cX1_shout 6 (some .boolean) 3 := ⟨m_661, m_663, s_1_14, m_3, m_664, rfl, by decide, by decide, by decide +kernel⟩
theorem dX1_carryCall_36 : decode cX1_carryCall 36 = .ok (.invokevirtual 70, 3) := by decide +kernel
theorem dX1_carryCall_39 : decode cX1_carryCall 39 = .ok (.ireturn, 1) := by decide +kernel
theorem dX1_carryCall_14 : decode cX1_carryCall 14 = .ok (.iconst 0, 1) := by decide +kernel
theorem dX1_carryCall_15 : decode cX1_carryCall 15 = .ok (.ireturn, 1) := by decide +kernel
noncomputable def pX1_carryCall_h0 : SPEC := (4, [vr 5, vr 4, vi 0 39, itop], vi 0 1, [], [(38, 0)], [])
set_option maxHeartbeats 4000000 in
set_option maxRecDepth 100000 in
theorem SX1_carryCall_h0 (l : Launch) (g : GG) : SM l g TS0 yX1_carryCall cX1_carryCall 10 (some .boolean) pX1_carryCall_h0 := by
  refine SM_hand (own := RX1) rfl (by decide) (by decide) ?_
  intro p e s m below meth c Γ As ls Q hU hV hQ X hr hI hPF hl
  have hx := X.1
  have hb := X.2.1
  obtain ⟨v1, v2, v3, v4, rfl, w1, w2, w3, w4⟩ := VR4 (show VR g Γ [_, _, _, _] As from hV)
  obtain ⟨q1, rfl, t_q1, z_q1⟩ := avi_ref rfl w1
  have t_q1 : Γ q1 = 5 := t_q1
  obtain ⟨q2, rfl, t_q2, z_q2⟩ := avi_ref rfl w2
  have t_q2 : Γ q2 = 4 := t_q2
  obtain ⟨x4, rfl, -⟩ := avi_int rfl w3
  obtain ⟨k3, rfl, lo_k3, hi_k3⟩ := avi_nn (lo := 0) (hi := 39) w3
  obtain ⟨x5, rfl, -⟩ := avi_int rfl w4
  have hl : lv_has ls 10 [(0, .ref q1), (1, .ref q2), (2, .int (nI k3)), (3, .int x5)] := hl
  refine lv_aload_n (pc := 0) hx hb dX1_carryCall_0 rfl (lv_at hl 1 rfl) ?_
  refine h_get (pc := 1) X hI.1 (hFX1 61 _ rfl) z_q2 ((congrArg TS0.1 t_q2).trans rfl) rfl dX1_carryCall_1 (fun vhv6 hv6 hEhv6 => ?_)
  obtain ⟨q7, rfl, t_q7, z_q7⟩ := avi_ref rfl hv6
  have t_q7 : Γ q7 = 33 := t_q7
  refine lv_iload_n (pc := 4) hx hb dX1_carryCall_4 rfl (lv_at hl 2 rfl) ?_
  refine h_iald (pc := 5) X hI.1 z_q7 ((congrArg TS0.1 t_q7).trans rfl) (avi_nI (lo := 0) (hi := 39) (k := k3) (Nat.zero_le _) (by omega) (by decide)) (by decide) (by decide) dX1_carryCall_5 (fun vhv8 hv8 hEhv8 => ?_)
  obtain ⟨x10, rfl, -⟩ := avi_int rfl hv8
  obtain ⟨k9, rfl, lo_k9, hi_k9⟩ := avi_nn (lo := 0) (hi := 6) hv8
  refine lv_istore (lv' := [(4, .int (nI k9)), (0, .ref q1), (1, .ref q2), (2, .int (nI k3)), (3, .int x5)]) (pc := 6) hx hb dX1_carryCall_6 hl (by decide) rfl (fun ls hl => ?_)
  refine lv_iload (pc := 8) hx hb dX1_carryCall_8 (lv_at hl 0 rfl) ?_
  refine lv_iload_n (pc := 10) hx hb dX1_carryCall_10 rfl (lv_at hl 4 rfl) ?_
  refine lv_icmp_ne (tgt := 16) (pc := 11) hx hb dX1_carryCall_11 rfl (fun c11 => ?_) (fun c11 => ?_)
  · obtain ⟨e32, e34, F3, F5, fk, fc, A3, A5, hkc⟩ := (hI.1.2.1 rfl).2.1 q2 t_q2
    refine lv_aload_n (pc := 16) hx hb dX1_carryCall_16 rfl (lv_at hl 2 rfl) ?_
    refine h_get (pc := 17) X hI.1 (hFX1 64 _ rfl) z_q2 ((congrArg TS0.1 t_q2).trans rfl) rfl dX1_carryCall_17 (fun vhv12 hv12 hEhv12 => ?_)
    obtain ⟨q13, rfl, t_q13, z_q13⟩ := avi_ref rfl hv12
    have t_q13 : Γ q13 = 32 := t_q13
    obtain rfl : q13 = q2 + 2 := Value.ref.inj (FE_fun hEhv12 F3)
    refine lv_iload_n (pc := 20) hx hb dX1_carryCall_20 rfl (lv_at hl 3 rfl) ?_
    refine h_ialdK (pc := 21) X A3 (by omega) (by decide) dX1_carryCall_21 ?_
    refine lv_iconst (v := 3) (pc := 22) hx hb dX1_carryCall_22 (by decide) ?_
    refine lv_icmp_ne (tgt := 40) (pc := 23) hx hb dX1_carryCall_23 rfl (fun c9 => ?_) (fun c9 => ?_)
    · refine lv_aload_n (pc := 40) hx hb dX1_carryCall_40 rfl (lv_at hl 2 rfl) ?_
      refine h_get (pc := 41) X hI.1 (hFX1 74 _ rfl) z_q2 ((congrArg TS0.1 t_q2).trans rfl) rfl dX1_carryCall_41 (fun vhv14 hv14 hEhv14 => ?_)
      obtain ⟨q15, rfl, t_q15, z_q15⟩ := avi_ref rfl hv14
      have t_q15 : Γ q15 = 34 := t_q15
      obtain rfl : q15 = q2 + 4 := Value.ref.inj (FE_fun hEhv14 F5)
      refine lv_iload_n (pc := 44) hx hb dX1_carryCall_44 rfl (lv_at hl 3 rfl) ?_
      refine h_ialdK (pc := 45) X A5 (by omega) (by decide) dX1_carryCall_45 ?_
      have b9 := (hkc k3 (by omega)).resolve_left c9
      obtain ⟨o9, eo9, lo_o9, hi_o9⟩ := avi_nn (g := g) (Γ := Γ) (lo := 0) (hi := 6) (show avi g Γ (0, .ofNat 0, .ofNat 6) (.int (fc k3)) from ⟨rfl, b9.1, b9.2⟩)
      rw [eo9]
      refine lv_istore (lv' := [(5, .int (nI o9)), (4, .int (nI k9)), (0, .ref q1), (1, .ref q2), (2, .int (nI k3)), (3, .int x5)]) (pc := 46) hx hb dX1_carryCall_46 hl (by decide) rfl (fun ls hl => ?_)
      refine lv_iload (pc := 48) hx hb dX1_carryCall_48 (lv_at hl 0 rfl) ?_
      refine lv_iload_n (pc := 50) hx hb dX1_carryCall_50 rfl (lv_at hl 5 rfl) ?_
      refine lv_icmp_ne (tgt := 56) (pc := 51) hx hb dX1_carryCall_51 rfl (fun c16 => ?_) (fun c16 => ?_)
      · refine lv_aload_n (pc := 56) hx hb dX1_carryCall_56 rfl (lv_at hl 2 rfl) ?_
        refine h_get (pc := 57) X hI.1 (hFX1 9 _ rfl) z_q1 ((congrArg TS0.1 t_q1).trans rfl) rfl dX1_carryCall_57 (fun vhv17 hv17 hEhv17 => ?_)
        obtain ⟨q18, rfl, t_q18, z_q18⟩ := avi_ref rfl hv17
        have t_q18 : Γ q18 = 38 := t_q18
        refine lv_iload (pc := 60) hx hb dX1_carryCall_60 (lv_at hl 1 rfl) ?_
        refine h_iald (pc := 62) X hI.1 z_q18 ((congrArg TS0.1 t_q18).trans rfl) (avi_nI (lo := 0) (hi := 6) (k := k9) (Nat.zero_le _) (by omega) (by decide)) (by decide) (by decide) dX1_carryCall_62 (fun vhv19 hv19 hEhv19 => ?_)
        obtain ⟨x21, rfl, -⟩ := avi_int rfl hv19
        obtain ⟨k20, rfl, lo_k20, hi_k20⟩ := avi_nn (lo := 0) (hi := 15) hv19
        refine lv_istore (lv' := [(6, .int (nI k20)), (5, .int (nI o9)), (4, .int (nI k9)), (0, .ref q1), (1, .ref q2), (2, .int (nI k3)), (3, .int x5)]) (pc := 63) hx hb dX1_carryCall_63 hl (by decide) rfl (fun ls hl => ?_)
        refine lv_aload_n (pc := 65) hx hb dX1_carryCall_65 rfl (lv_at hl 3 rfl) ?_
        refine h_get (pc := 66) X hI.1 (hFX1 9 _ rfl) z_q1 ((congrArg TS0.1 t_q1).trans rfl) rfl dX1_carryCall_66 (fun vhv22 hv22 hEhv22 => ?_)
        obtain ⟨q23, rfl, t_q23, z_q23⟩ := avi_ref rfl hv22
        have t_q23 : Γ q23 = 38 := t_q23
        refine lv_iload (pc := 69) hx hb dX1_carryCall_69 (lv_at hl 1 rfl) ?_
        refine h_iald (pc := 71) X hI.1 z_q23 ((congrArg TS0.1 t_q23).trans rfl) (avi_nI (lo := 0) (hi := 6) (k := o9) (Nat.zero_le _) (by omega) (by decide)) (by decide) (by decide) dX1_carryCall_71 (fun vhv24 hv24 hEhv24 => ?_)
        obtain ⟨x26, rfl, -⟩ := avi_int rfl hv24
        obtain ⟨k25, rfl, lo_k25, hi_k25⟩ := avi_nn (lo := 0) (hi := 15) hv24
        refine lv_istore (lv' := [(7, .int (nI k25)), (6, .int (nI k20)), (5, .int (nI o9)), (4, .int (nI k9)), (0, .ref q1), (1, .ref q2), (2, .int (nI k3)), (3, .int x5)]) (pc := 72) hx hb dX1_carryCall_72 hl (by decide) rfl (fun ls hl => ?_)
        refine lv_aload_n (pc := 74) hx hb dX1_carryCall_74 rfl (lv_at hl 5 rfl) ?_
        refine h_get (pc := 75) X hI.1 (hFX1 64 _ rfl) z_q2 ((congrArg TS0.1 t_q2).trans rfl) rfl dX1_carryCall_75 (fun vhv27 hv27 hEhv27 => ?_)
        obtain ⟨q28, rfl, t_q28, z_q28⟩ := avi_ref rfl hv27
        have t_q28 : Γ q28 = 32 := t_q28
        refine lv_iload_n (pc := 78) hx hb dX1_carryCall_78 rfl (lv_at hl 6 rfl) ?_
        refine h_iald (pc := 79) X hI.1 z_q28 ((congrArg TS0.1 t_q28).trans rfl) (avi_nI (lo := 0) (hi := 39) (k := k3) (Nat.zero_le _) (by omega) (by decide)) (by decide) (by decide) dX1_carryCall_79 (fun vhv29 hv29 hEhv29 => ?_)
        obtain ⟨x31, rfl, -⟩ := avi_int rfl hv29
        obtain ⟨k30, rfl, lo_k30, hi_k30⟩ := avi_nn (lo := 0) (hi := 4) hv29
        rcases (show k30 = 0 ∨ k30 = 1 ∨ k30 = 2 ∨ k30 = 3 ∨ k30 = 4 by omega) with h9 | h9 | h9 | h9 | h9
        · rw [h9]
          refine lv_tableIn (pc := 80) (off := 36) (tgt := 116) hx hb dX1_carryCall_80 (by decide) (by decide) rfl rfl ?_
          refine lv_aload_n (pc := 116) hx hb dX1_carryCall_116 rfl (lv_at hl 4 rfl) ?_
          refine lv_iload (pc := 117) hx hb dX1_carryCall_117 (lv_at hl 2 rfl) ?_
          refine lv_iload (pc := 119) hx hb dX1_carryCall_119 (lv_at hl 1 rfl) ?_
          refine h_call (pc := 121) (dd := 4) (avs := [.ref q1, .int (nI o9), .int (nI k20)]) (rs := []) X hI (COV (SX1_tell_0 l g) (by decide) vX1_77 rfl) ⟨Nat.le_refl _, Nat.le_refl _, Nat.le_refl _, Nat.le_refl _⟩ (by decide) hl.1 rfl rfl hU no_pf ⟨av_r t_q1 z_q1, avi_nI (lo := 0) (hi := 6) (k := o9) (by omega) (by omega) (by decide), avi_nI (lo := 0) (hi := 15) (k := k20) (by omega) (by omega) (by decide), trivial⟩ (fun _ => ⟨_, _, _, rfl, z_q1, (congrArg TS0.1 t_q1).trans rfl⟩) (md_sub (by decide)) (Nat.le_of_ble_eq_true rfl) dX1_carryCall_121 (fun vr H locs hro hI hUn => ?_)
          obtain ⟨vhv32, rfl, hv32, imhv32⟩ := RO_some rfl hro
          obtain ⟨x34, rfl, -⟩ := avi_int rfl hv32
          obtain ⟨k33, rfl, lo_k33, hi_k33⟩ := avi_nn (lo := 0) (hi := 1) hv32
          refine lv_istore (lv' := [(8, .int (nI k33)), (7, .int (nI k25)), (6, .int (nI k20)), (5, .int (nI o9)), (4, .int (nI k9)), (0, .ref q1), (1, .ref q2), (2, .int (nI k3)), (3, .int x5)]) (pc := 124) hx hb dX1_carryCall_124 hl (by decide) rfl (fun ls hl => ?_)
          refine lv_aload_n (pc := 126) hx hb dX1_carryCall_126 rfl (lv_at hl 5 rfl) ?_
          refine lv_iload (pc := 127) hx hb dX1_carryCall_127 (lv_at hl 4 rfl) ?_
          refine lv_iload (pc := 129) hx hb dX1_carryCall_129 (lv_at hl 1 rfl) ?_
          refine h_call (pc := 131) (dd := 4) (avs := [.ref q1, .int (nI k9), .int (nI k25)]) (rs := []) X hI (COV (SX1_tell_0 l g) (by decide) vX1_77 rfl) ⟨Nat.le_refl _, Nat.le_refl _, Nat.le_refl _, Nat.le_refl _⟩ (by decide) hl.1 rfl rfl hU no_pf ⟨av_r t_q1 z_q1, avi_nI (lo := 0) (hi := 6) (k := k9) (by omega) (by omega) (by decide), avi_nI (lo := 0) (hi := 15) (k := k25) (by omega) (by omega) (by decide), trivial⟩ (fun _ => ⟨_, _, _, rfl, z_q1, (congrArg TS0.1 t_q1).trans rfl⟩) (md_sub (by decide)) (Nat.le_of_ble_eq_true rfl) dX1_carryCall_131 (fun vr H locs hro hI hUn => ?_)
          obtain ⟨vhv35, rfl, hv35, imhv35⟩ := RO_some rfl hro
          obtain ⟨x37, rfl, -⟩ := avi_int rfl hv35
          obtain ⟨k36, rfl, lo_k36, hi_k36⟩ := avi_nn (lo := 0) (hi := 1) hv35
          refine lv_istore (lv' := [(9, .int (nI k36)), (8, .int (nI k33)), (7, .int (nI k25)), (6, .int (nI k20)), (5, .int (nI o9)), (4, .int (nI k9)), (0, .ref q1), (1, .ref q2), (2, .int (nI k3)), (3, .int x5)]) (pc := 134) hx hb dX1_carryCall_134 hl (by decide) rfl (fun ls hl => ?_)
          refine lv_iload (pc := 136) hx hb dX1_carryCall_136 (lv_at hl 1 rfl) ?_
          refine lv_if_ne (tgt := 146) (pc := 138) hx hb dX1_carryCall_138 rfl (fun c38 => ?_) (fun c38 => ?_)
          · refine lv_iconst (v := 1) (pc := 146) hx hb dX1_carryCall_146 (by decide) ?_
            refine lv_goto (tgt := 151) (pc := 147) hx hb dX1_carryCall_147 rfl ?_
            exact h_ret (pc := 151) X hI hQ hr (rk := 1) (Or.inr (Or.inl ⟨rfl, rfl⟩)) (avi_nI (lo := 0) (hi := 1) (k := 1) (by omega) (by omega) (by decide)) (RO_of (avi_nI (lo := 0) (hi := 1) (k := 1) (by omega) (by omega) (by decide)) rfl) (Or.inr (Or.inl ⟨rfl, rfl, rfl, by decide, by decide⟩)) dX1_carryCall_151
          · refine lv_iload (pc := 141) hx hb dX1_carryCall_141 (lv_at hl 0 rfl) ?_
            refine lv_if_eq (tgt := 150) (pc := 143) hx hb dX1_carryCall_143 rfl (fun c39 => ?_) (fun c39 => ?_)
            · refine lv_iconst (v := 0) (pc := 150) hx hb dX1_carryCall_150 (by decide) ?_
              exact h_ret (pc := 151) X hI hQ hr (rk := 1) (Or.inr (Or.inl ⟨rfl, rfl⟩)) (avi_nI (lo := 0) (hi := 1) (k := 0) (by omega) (by omega) (by decide)) (RO_of (avi_nI (lo := 0) (hi := 1) (k := 0) (by omega) (by omega) (by decide)) rfl) (Or.inr (Or.inl ⟨rfl, rfl, rfl, by decide, by decide⟩)) dX1_carryCall_151
            · refine lv_iconst (v := 1) (pc := 146) hx hb dX1_carryCall_146 (by decide) ?_
              refine lv_goto (tgt := 151) (pc := 147) hx hb dX1_carryCall_147 rfl ?_
              exact h_ret (pc := 151) X hI hQ hr (rk := 1) (Or.inr (Or.inl ⟨rfl, rfl⟩)) (avi_nI (lo := 0) (hi := 1) (k := 1) (by omega) (by omega) (by decide)) (RO_of (avi_nI (lo := 0) (hi := 1) (k := 1) (by omega) (by omega) (by decide)) rfl) (Or.inr (Or.inl ⟨rfl, rfl, rfl, by decide, by decide⟩)) dX1_carryCall_151
        · rw [h9]
          refine lv_tableIn (pc := 80) (off := 103) (tgt := 183) hx hb dX1_carryCall_80 (by decide) (by decide) rfl rfl ?_
          refine lv_aload_n (pc := 183) hx hb dX1_carryCall_183 rfl (lv_at hl 4 rfl) ?_
          refine lv_iload (pc := 184) hx hb dX1_carryCall_184 (lv_at hl 2 rfl) ?_
          refine lv_iload (pc := 186) hx hb dX1_carryCall_186 (lv_at hl 1 rfl) ?_
          refine h_call (pc := 188) (dd := 4) (avs := [.ref q1, .int (nI o9), .int (nI k20)]) (rs := []) X hI (COV (SX1_tell_0 l g) (by decide) vX1_77 rfl) ⟨Nat.le_refl _, Nat.le_refl _, Nat.le_refl _, Nat.le_refl _⟩ (by decide) hl.1 rfl rfl hU no_pf ⟨av_r t_q1 z_q1, avi_nI (lo := 0) (hi := 6) (k := o9) (by omega) (by omega) (by decide), avi_nI (lo := 0) (hi := 15) (k := k20) (by omega) (by omega) (by decide), trivial⟩ (fun _ => ⟨_, _, _, rfl, z_q1, (congrArg TS0.1 t_q1).trans rfl⟩) (md_sub (by decide)) (Nat.le_of_ble_eq_true rfl) dX1_carryCall_188 (fun vr H locs hro hI hUn => ?_)
          obtain ⟨vhv40, rfl, hv40, imhv40⟩ := RO_some rfl hro
          obtain ⟨x42, rfl, -⟩ := avi_int rfl hv40
          obtain ⟨k41, rfl, lo_k41, hi_k41⟩ := avi_nn (lo := 0) (hi := 1) hv40
          exact h_ret (pc := 191) X hI hQ hr (rk := 1) (Or.inr (Or.inl ⟨rfl, rfl⟩)) (avi_nI (lo := 0) (hi := 1) (k := k41) (by omega) (by omega) (by decide)) (RO_of (avi_nI (lo := 0) (hi := 1) (k := k41) (by omega) (by omega) (by decide)) rfl) (Or.inr (Or.inl ⟨rfl, rfl, rfl, by decide, by decide⟩)) dX1_carryCall_191
        · rw [h9]
          refine lv_tableIn (pc := 80) (off := 72) (tgt := 152) hx hb dX1_carryCall_80 (by decide) (by decide) rfl rfl ?_
          refine lv_aload_n (pc := 152) hx hb dX1_carryCall_152 rfl (lv_at hl 4 rfl) ?_
          refine lv_iload (pc := 153) hx hb dX1_carryCall_153 (lv_at hl 3 rfl) ?_
          refine lv_iload (pc := 155) hx hb dX1_carryCall_155 (lv_at hl 0 rfl) ?_
          refine h_call (pc := 157) (dd := 4) (avs := [.ref q1, .int (nI k9), .int (nI k25)]) (rs := []) X hI (COV (SX1_tell_0 l g) (by decide) vX1_77 rfl) ⟨Nat.le_refl _, Nat.le_refl _, Nat.le_refl _, Nat.le_refl _⟩ (by decide) hl.1 rfl rfl hU no_pf ⟨av_r t_q1 z_q1, avi_nI (lo := 0) (hi := 6) (k := k9) (by omega) (by omega) (by decide), avi_nI (lo := 0) (hi := 15) (k := k25) (by omega) (by omega) (by decide), trivial⟩ (fun _ => ⟨_, _, _, rfl, z_q1, (congrArg TS0.1 t_q1).trans rfl⟩) (md_sub (by decide)) (Nat.le_of_ble_eq_true rfl) dX1_carryCall_157 (fun vr H locs hro hI hUn => ?_)
          obtain ⟨vhv43, rfl, hv43, imhv43⟩ := RO_some rfl hro
          obtain ⟨x45, rfl, -⟩ := avi_int rfl hv43
          obtain ⟨k44, rfl, lo_k44, hi_k44⟩ := avi_nn (lo := 0) (hi := 1) hv43
          exact h_ret (pc := 160) X hI hQ hr (rk := 1) (Or.inr (Or.inl ⟨rfl, rfl⟩)) (avi_nI (lo := 0) (hi := 1) (k := k44) (by omega) (by omega) (by decide)) (RO_of (avi_nI (lo := 0) (hi := 1) (k := k44) (by omega) (by omega) (by decide)) rfl) (Or.inr (Or.inl ⟨rfl, rfl, rfl, by decide, by decide⟩)) dX1_carryCall_160
        · rw [h9]
          refine lv_tableIn (pc := 80) (off := 103) (tgt := 183) hx hb dX1_carryCall_80 (by decide) (by decide) rfl rfl ?_
          refine lv_aload_n (pc := 183) hx hb dX1_carryCall_183 rfl (lv_at hl 4 rfl) ?_
          refine lv_iload (pc := 184) hx hb dX1_carryCall_184 (lv_at hl 2 rfl) ?_
          refine lv_iload (pc := 186) hx hb dX1_carryCall_186 (lv_at hl 1 rfl) ?_
          refine h_call (pc := 188) (dd := 4) (avs := [.ref q1, .int (nI o9), .int (nI k20)]) (rs := []) X hI (COV (SX1_tell_0 l g) (by decide) vX1_77 rfl) ⟨Nat.le_refl _, Nat.le_refl _, Nat.le_refl _, Nat.le_refl _⟩ (by decide) hl.1 rfl rfl hU no_pf ⟨av_r t_q1 z_q1, avi_nI (lo := 0) (hi := 6) (k := o9) (by omega) (by omega) (by decide), avi_nI (lo := 0) (hi := 15) (k := k20) (by omega) (by omega) (by decide), trivial⟩ (fun _ => ⟨_, _, _, rfl, z_q1, (congrArg TS0.1 t_q1).trans rfl⟩) (md_sub (by decide)) (Nat.le_of_ble_eq_true rfl) dX1_carryCall_188 (fun vr H locs hro hI hUn => ?_)
          obtain ⟨vhv46, rfl, hv46, imhv46⟩ := RO_some rfl hro
          obtain ⟨x48, rfl, -⟩ := avi_int rfl hv46
          obtain ⟨k47, rfl, lo_k47, hi_k47⟩ := avi_nn (lo := 0) (hi := 1) hv46
          exact h_ret (pc := 191) X hI hQ hr (rk := 1) (Or.inr (Or.inl ⟨rfl, rfl⟩)) (avi_nI (lo := 0) (hi := 1) (k := k47) (by omega) (by omega) (by decide)) (RO_of (avi_nI (lo := 0) (hi := 1) (k := k47) (by omega) (by omega) (by decide)) rfl) (Or.inr (Or.inl ⟨rfl, rfl, rfl, by decide, by decide⟩)) dX1_carryCall_191
        · rw [h9]
          refine lv_tableIn (pc := 80) (off := 81) (tgt := 161) hx hb dX1_carryCall_80 (by decide) (by decide) rfl rfl ?_
          refine lv_aload_n (pc := 161) hx hb dX1_carryCall_161 rfl (lv_at hl 4 rfl) ?_
          refine lv_iload (pc := 162) hx hb dX1_carryCall_162 (lv_at hl 2 rfl) ?_
          refine lv_iload (pc := 164) hx hb dX1_carryCall_164 (lv_at hl 1 rfl) ?_
          refine lv_aload_n (pc := 166) hx hb dX1_carryCall_166 rfl (lv_at hl 5 rfl) ?_
          refine h_get (pc := 167) X hI.1 (hFX1 27 _ rfl) z_q2 ((congrArg TS0.1 t_q2).trans rfl) rfl dX1_carryCall_167 (fun vhv49 hv49 hEhv49 => ?_)
          obtain ⟨q50, rfl, t_q50, z_q50⟩ := avi_ref rfl hv49
          have t_q50 : Γ q50 = 3 := t_q50
          refine h_get (pc := 170) X hI.1 (hFX1 81 _ rfl) z_q50 ((congrArg TS0.1 t_q50).trans rfl) rfl dX1_carryCall_170 (fun vhv51 hv51 hEhv51 => ?_)
          obtain ⟨q52, rfl, t_q52, z_q52⟩ := avi_ref rfl hv51
          have t_q52 : Γ q52 = 24 := t_q52
          refine lv_iload (pc := 173) hx hb dX1_carryCall_173 (lv_at hl 2 rfl) ?_
          refine h_iald (pc := 175) X hI.1 z_q52 ((congrArg TS0.1 t_q52).trans rfl) (avi_nI (lo := 0) (hi := 6) (k := o9) (Nat.zero_le _) (by omega) (by decide)) (by decide) (by decide) dX1_carryCall_175 (fun vhv53 hv53 hEhv53 => ?_)
          obtain ⟨x55, rfl, -⟩ := avi_int rfl hv53
          obtain ⟨k54, rfl, lo_k54, hi_k54⟩ := avi_nn (lo := 0) (hi := 15) hv53
          refine lv_iconst (v := (-1)) (pc := 176) hx hb dX1_carryCall_176 (by decide) ?_
          refine lv_ixor (pc := 177) hx hb dX1_carryCall_177 ?_
          refine lv_iand (pc := 178) hx hb dX1_carryCall_178 ?_
          have m9 := iand_nn2 (x := nI k20) (y := (nI k54) ^^^ (-1)) (by rw [nI_toInt (by omega)]; omega)
          rw [nI_toInt (n := k20) (by omega)] at m9
          refine h_call (pc := 179) (dd := 4) (avs := [.ref q1, .int (nI o9), .int ((nI k20) &&& ((nI k54) ^^^ (-1)))]) (rs := []) X hI (COV (SX1_tell_0 l g) (by decide) vX1_77 rfl) ⟨Nat.le_refl _, Nat.le_refl _, Nat.le_refl _, Nat.le_refl _⟩ (by decide) hl.1 rfl rfl hU no_pf ⟨av_r t_q1 z_q1, avi_nI (lo := 0) (hi := 6) (k := o9) (by omega) (by omega) (by decide), ⟨rfl, m9.1, Int.le_trans m9.2 (show (_ : Int) ≤ (15 : Int) by omega)⟩, trivial⟩ (fun _ => ⟨_, _, _, rfl, z_q1, (congrArg TS0.1 t_q1).trans rfl⟩) (md_sub (by decide)) (Nat.le_of_ble_eq_true rfl) dX1_carryCall_179 (fun vr H locs hro hI hUn => ?_)
          obtain ⟨vhv56, rfl, hv56, imhv56⟩ := RO_some rfl hro
          obtain ⟨x58, rfl, -⟩ := avi_int rfl hv56
          obtain ⟨k57, rfl, lo_k57, hi_k57⟩ := avi_nn (lo := 0) (hi := 1) hv56
          exact h_ret (pc := 182) X hI hQ hr (rk := 1) (Or.inr (Or.inl ⟨rfl, rfl⟩)) (avi_nI (lo := 0) (hi := 1) (k := k57) (by omega) (by omega) (by decide)) (RO_of (avi_nI (lo := 0) (hi := 1) (k := k57) (by omega) (by omega) (by decide)) rfl) (Or.inr (Or.inl ⟨rfl, rfl, rfl, by decide, by decide⟩)) dX1_carryCall_182
      · refine lv_iconst (v := 0) (pc := 54) hx hb dX1_carryCall_54 (by decide) ?_
        exact h_ret (pc := 55) X hI hQ hr (rk := 1) (Or.inr (Or.inl ⟨rfl, rfl⟩)) (avi_nI (lo := 0) (hi := 1) (k := 0) (by omega) (by omega) (by decide)) (RO_of (avi_nI (lo := 0) (hi := 1) (k := 0) (by omega) (by omega) (by decide)) rfl) (Or.inr (Or.inl ⟨rfl, rfl, rfl, by decide, by decide⟩)) dX1_carryCall_55
    · refine lv_aload_n (pc := 26) hx hb dX1_carryCall_26 rfl (lv_at hl 1 rfl) ?_
      refine lv_iload (pc := 27) hx hb dX1_carryCall_27 (lv_at hl 0 rfl) ?_
      refine lv_aload_n (pc := 29) hx hb dX1_carryCall_29 rfl (lv_at hl 2 rfl) ?_
      refine h_get (pc := 30) X hI.1 (hFX1 67 _ rfl) z_q2 ((congrArg TS0.1 t_q2).trans rfl) rfl dX1_carryCall_30 (fun vhv59 hv59 hEhv59 => ?_)
      obtain ⟨q60, rfl, t_q60, z_q60⟩ := avi_ref rfl hv59
      have t_q60 : Γ q60 = 37 := t_q60
      refine lv_iload_n (pc := 33) hx hb dX1_carryCall_33 rfl (lv_at hl 3 rfl) ?_
      refine h_iald (pc := 34) X hI.1 z_q60 ((congrArg TS0.1 t_q60).trans rfl) (avi_nI (lo := 0) (hi := 39) (k := k3) (Nat.zero_le _) (by omega) (by decide)) (by decide) (by decide) dX1_carryCall_34 (fun vhv61 hv61 hEhv61 => ?_)
      obtain ⟨x63, rfl, -⟩ := avi_int rfl hv61
      obtain ⟨k62, rfl, lo_k62, hi_k62⟩ := avi_nn (lo := 0) (hi := 127) hv61
      refine lv_iload_n (pc := 35) hx hb dX1_carryCall_35 rfl (lv_at hl 4 rfl) ?_
      refine h_call (pc := 36) (dd := 4) (avs := [.ref q1, .int (nI k9), .int (nI k62), .int x5]) (rs := []) X hI (COV (SX1_shout_0 l g) (by decide) vX1_70 rfl) ⟨Nat.le_refl _, Nat.le_refl _, Nat.le_refl _, Nat.le_refl _⟩ (by decide) hl.1 rfl rfl hU no_pf ⟨av_r t_q1 z_q1, avi_nI (lo := 0) (hi := 6) (k := k9) (by omega) (by omega) (by decide), avi_nI (lo := 0) (hi := 127) (k := k62) (by omega) (by omega) (by decide), avi_top _, trivial⟩ (fun _ => ⟨_, _, _, rfl, z_q1, (congrArg TS0.1 t_q1).trans rfl⟩) (md_sub (by decide)) (Nat.le_of_ble_eq_true rfl) dX1_carryCall_36 (fun vr H locs hro hI hUn => ?_)
      obtain ⟨vhv64, rfl, hv64, imhv64⟩ := RO_some rfl hro
      obtain ⟨x66, rfl, -⟩ := avi_int rfl hv64
      obtain ⟨k65, rfl, lo_k65, hi_k65⟩ := avi_nn (lo := 0) (hi := 1) hv64
      exact h_ret (pc := 39) X hI hQ hr (rk := 1) (Or.inr (Or.inl ⟨rfl, rfl⟩)) (avi_nI (lo := 0) (hi := 1) (k := k65) (by omega) (by omega) (by decide)) (RO_of (avi_nI (lo := 0) (hi := 1) (k := k65) (by omega) (by omega) (by decide)) rfl) (Or.inr (Or.inl ⟨rfl, rfl, rfl, by decide, by decide⟩)) dX1_carryCall_39
  · refine lv_iconst (v := 0) (pc := 14) hx hb dX1_carryCall_14 (by decide) ?_
    exact h_ret (pc := 15) X hI hQ hr (rk := 1) (Or.inr (Or.inl ⟨rfl, rfl⟩)) (avi_nI (lo := 0) (hi := 1) (k := 0) (by omega) (by omega) (by decide)) (RO_of (avi_nI (lo := 0) (hi := 1) (k := 0) (by omega) (by omega) (by decide)) rfl) (Or.inr (Or.inl ⟨rfl, rfl, rfl, by decide, by decide⟩)) dX1_carryCall_15
/-! a call is told -/
theorem dX11_call_12 : decode cX11_call 12 = .ok (.iload_n 2, 1) := DX11_call _ _ _ rfl
theorem dX11_call_13 : decode cX11_call 13 = .ok (.invokestatic 134, 3) := DX11_call _ _ _ rfl
theorem dX11_call_16 : decode cX11_call 16 = .ok (.ifCond .eq 20, 3) := DX11_call _ _ _ rfl
theorem dX11_call_19 : decode cX11_call 19 = .ok (.iload_n 3, 1) := DX11_call _ _ _ rfl
theorem dX11_call_20 : decode cX11_call 20 = .ok (.ifCond .lt 16, 3) := DX11_call _ _ _ rfl
theorem dX11_call_23 : decode cX11_call 23 = .ok (.iload_n 3, 1) := DX11_call _ _ _ rfl
theorem dX11_call_24 : decode cX11_call 24 = .ok (.iconst 4, 1) := DX11_call _ _ _ rfl
theorem dX11_call_25 : decode cX11_call 25 = .ok (.if_icmp .gt 11, 3) := DX11_call _ _ _ rfl
theorem dX11_call_28 : decode cX11_call 28 = .ok (.aload 6, 2) := DX11_call _ _ _ rfl
theorem m_614 : (Cond.methodLink "NoonValley" 161 yX4_hasRoom) ∈ BW := bw (tb3 134 rfl) (by decide +kernel)
theorem vX11_161 : LV RX11 161 RX4 yX4_hasRoom cX4_hasRoom 1 (some .boolean) 0 := ⟨m_614, m_615, m_616, m_18, m_617, rfl, by decide, by decide, by decide +kernel⟩
theorem dX11_call_30 : decode cX11_call 30 = .ok (.invokevirtual 161, 3) := DX11_call _ _ _ rfl
theorem dX11_call_33 : decode cX11_call 33 = .ok (.ifCond .ne 5, 3) := DX11_call _ _ _ rfl
theorem dX11_call_38 : decode cX11_call 38 = .ok (.iload_n 3, 1) := DX11_call _ _ _ rfl
theorem dX11_call_39 : decode cX11_call 39 = .ok (.iconst 3, 1) := DX11_call _ _ _ rfl
theorem dX11_call_40 : decode cX11_call 40 = .ok (.if_icmp .ne 16, 3) := DX11_call _ _ _ rfl
theorem dX11_call_56 : decode cX11_call 56 = .ok (.aload 6, 2) := DX11_call _ _ _ rfl
theorem dX11_call_58 : decode cX11_call 58 = .ok (.getfield 165, 3) := DX11_call _ _ _ rfl
theorem dX11_call_61 : decode cX11_call 61 = .ok (.iload 4, 2) := DX11_call _ _ _ rfl
theorem dX11_call_63 : decode cX11_call 63 = .ok (.iload 5, 2) := DX11_call _ _ _ rfl
theorem dX11_call_65 : decode cX11_call 65 = .ok (.invokevirtual 141, 3) := DX11_call _ _ _ rfl
theorem dX11_call_68 : decode cX11_call 68 = .ok (.istore 7, 2) := DX11_call _ _ _ rfl
theorem dX11_call_70 : decode cX11_call 70 = .ok (.iload 7, 2) := DX11_call _ _ _ rfl
theorem dX11_call_72 : decode cX11_call 72 = .ok (.ifCond .ne 5, 3) := DX11_call _ _ _ rfl
theorem dX11_call_77 : decode cX11_call 77 = .ok (.aload_n 0, 1) := DX11_call _ _ _ rfl
theorem dX11_call_78 : decode cX11_call 78 = .ok (.dup, 1) := DX11_call _ _ _ rfl
theorem dX11_call_79 : decode cX11_call 79 = .ok (.getfield 171, 3) := DX11_call _ _ _ rfl
theorem dX11_call_82 : decode cX11_call 82 = .ok (.iconst 1, 1) := DX11_call _ _ _ rfl
theorem dX11_call_83 : decode cX11_call 83 = .ok (.iadd, 1) := DX11_call _ _ _ rfl
theorem dX11_call_84 : decode cX11_call 84 = .ok (.putfield 171, 3) := DX11_call _ _ _ rfl
theorem dX11_call_87 : decode cX11_call 87 = .ok (.aload 6, 2) := DX11_call _ _ _ rfl
theorem dX11_call_89 : decode cX11_call 89 = .ok (.iload_n 2, 1) := DX11_call _ _ _ rfl
theorem dX11_call_90 : decode cX11_call 90 = .ok (.iload_n 3, 1) := DX11_call _ _ _ rfl
theorem dX11_call_91 : decode cX11_call 91 = .ok (.iload 4, 2) := DX11_call _ _ _ rfl
theorem dX11_call_93 : decode cX11_call 93 = .ok (.iload 5, 2) := DX11_call _ _ _ rfl
theorem m_619 : (Cond.methodLink "NoonValley" 174 yX4_append) ∈ BW := bw (tb3 139 rfl) (by decide +kernel)
theorem m_620 : (Cond.instanceMethod yX4_append) ∈ BW := bw (tb3 140 rfl) (by decide +kernel)
theorem m_621 : (Cond.selects "NoonValley$Plan" yX4_append yX4_append) ∈ BW := bw (tb3 141 rfl) (by decide +kernel)
theorem vX11_174 : LV RX11 174 RX4 yX4_append cX4_append 6 (some .int) 4 := ⟨m_619, m_620, m_621, m_18, m_622, rfl, by decide, by decide, by decide +kernel⟩
theorem dX11_call_95 : decode cX11_call 95 = .ok (.invokevirtual 174, 3) := DX11_call _ _ _ rfl
theorem dX11_call_98 : decode cX11_call 98 = .ok (.ireturn, 1) := DX11_call _ _ _ rfl
theorem dX11_call_75 : decode cX11_call 75 = .ok (.iconst (-1), 1) := DX11_call _ _ _ rfl
theorem dX11_call_76 : decode cX11_call 76 = .ok (.ireturn, 1) := DX11_call _ _ _ rfl
theorem dX11_call_43 : decode cX11_call 43 = .ok (.aload 6, 2) := DX11_call _ _ _ rfl
theorem dX11_call_45 : decode cX11_call 45 = .ok (.getfield 165, 3) := DX11_call _ _ _ rfl
theorem dX11_call_48 : decode cX11_call 48 = .ok (.iload 4, 2) := DX11_call _ _ _ rfl
theorem dX11_call_50 : decode cX11_call 50 = .ok (.invokevirtual 168, 3) := DX11_call _ _ _ rfl
theorem dX11_call_53 : decode cX11_call 53 = .ok (.goto 15, 3) := DX11_call _ _ _ rfl
noncomputable def pX11_call_h0 : SPEC := (4, [vr 1, itop, itop, itop, itop, itop], vj (-1) 39, [], [(1, 13), (4, 1), (31, 0), (32, 0), (33, 0), (34, 0), (35, 0)], [])
set_option maxHeartbeats 4000000 in
set_option maxRecDepth 100000 in
theorem SX11_call_h0 (l : Launch) (g : GG) : SM l g TS0 yX11_call cX11_call 8 (some .int) pX11_call_h0 := by
  refine SM_hand (own := RX11) rfl (by decide) (by decide) ?_
  intro p e s m below meth c Γ As ls Q hU hV hQ X hr hI hPF hl
  have hx := X.1
  have hb := X.2.1
  obtain ⟨v1, v2, v3, v4, v5, v6, rfl, w1, w2, w3, w4, w5, w6⟩ := VR6 (show VR g Γ [_, _, _, _, _, _] As from hV)
  obtain ⟨q1, rfl, t_q1, z_q1⟩ := avi_ref rfl w1
  have t_q1 : Γ q1 = 1 := t_q1
  obtain ⟨x2, rfl, -⟩ := avi_int rfl w2
  obtain ⟨x3, rfl, -⟩ := avi_int rfl w3
  obtain ⟨x4, rfl, -⟩ := avi_int rfl w4
  obtain ⟨x5, rfl, -⟩ := avi_int rfl w5
  obtain ⟨x6, rfl, -⟩ := avi_int rfl w6
  have hl : lv_has ls 8 [(0, .ref q1), (1, .int x2), (2, .int x3), (3, .int x4), (4, .int x5), (5, .int x6)] := hl
  refine lv_aload_n (pc := 0) hx hb dX11_call_0 rfl (lv_at hl 0 rfl) ?_
  refine lv_iload_n (pc := 1) hx hb dX11_call_1 rfl (lv_at hl 1 rfl) ?_
  refine h_call (pc := 2) (dd := 4) (avs := [.ref q1, .int x2]) (rs := []) X hI (COV (SX11_planAt_0 l g) (by decide) vX11_157 rfl) ⟨Nat.le_refl _, Nat.le_refl _, Nat.le_refl _, Nat.le_refl _⟩ (by decide) hl.1 rfl rfl hU no_pf ⟨av_r t_q1 z_q1, avi_top _, trivial⟩ (fun _ => ⟨_, _, _, rfl, z_q1, (congrArg TS0.1 t_q1).trans rfl⟩) (md_sub (by decide)) (Nat.le_of_ble_eq_true rfl) dX11_call_2 (fun vr H locs hro hI hUn => ?_)
  obtain ⟨vhv7, rfl, hv7, imhv7⟩ := RO_some rfl hro
  rcases avi_nr hv7 with ⟨q8, rfl, t_q8, z_q8⟩ | rfl
  · refine lv_astore (lv' := [(6, .ref q8), (0, .ref q1), (1, .int x2), (2, .int x3), (3, .int x4), (4, .int x5), (5, .int x6)]) (pc := 5) hx hb dX11_call_5 hl (by decide) rfl (fun ls hl => ?_)
    refine lv_aload (pc := 7) hx hb dX11_call_7 (lv_at hl 0 rfl) ?_
    refine lv_ifnull (pc := 9) hx hb dX11_call_9 ?_
    refine lv_iload_n (pc := 12) hx hb dX11_call_12 rfl (lv_at hl 3 rfl) ?_
    refine h_call (pc := 13) (dd := 4) (avs := [.int x3]) (rs := []) X hI (COS (ci := 0) (SX11_isHour_0 l g) (by decide) vX11_134) ⟨Nat.le_refl _, Nat.le_refl _, Nat.le_refl _, Nat.le_refl _⟩ (by decide) hl.1 rfl rfl hU no_pf ⟨avi_top _, trivial⟩ (fun h => by cases h) (md_sub (by decide)) (Nat.le_of_ble_eq_true rfl) dX11_call_13 (fun vr H locs hro hI hUn => ?_)
    obtain ⟨vhv9, rfl, hv9, imhv9⟩ := RO_some rfl hro
    obtain ⟨x11, rfl, -⟩ := avi_int rfl hv9
    obtain ⟨k10, rfl, lo_k10, hi_k10⟩ := avi_nn (lo := 0) (hi := 1) hv9
    refine lv_if_eq (tgt := 36) (pc := 16) hx hb dX11_call_16 rfl (fun c9 => ?_) (fun c9 => ?_)
    · refine lv_iconst (v := (-1)) (pc := 36) hx hb dX11_call_36 (by decide) ?_
      exact h_ret (pc := 37) X hI hQ hr (rk := 0) (Or.inl ⟨rfl, rfl⟩) ((⟨rfl, by decide, by decide⟩ : avi g Γ (vj (-1) 39) (.int (-1)))) (RO_of ((⟨rfl, by decide, by decide⟩ : avi g Γ (vj (-1) 39) (.int (-1)))) rfl) (Or.inl ⟨rfl, rfl, rfl⟩) dX11_call_37
    · have b9 := bool_1 (by omega) c9
      obtain ⟨hr9, e_hr9, lo_hr9, hi_hr9⟩ := im_at (j := 0) (lo := 1) (hi := 24) imhv9 (show (1, 1, 0, vi 1 24) ∈ _ by first | exact List.mem_cons_self | exact List.mem_cons_of_mem _ List.mem_cons_self) rfl rfl rfl rfl rfl b9
      subst e_hr9
      refine lv_iload_n (pc := 19) hx hb dX11_call_19 rfl (lv_at hl 4 rfl) ?_
      refine lv_if_lt (tgt := 36) (pc := 20) hx hb dX11_call_20 rfl (fun c9 => ?_) (fun k0 => ?_)
      · refine lv_iconst (v := (-1)) (pc := 36) hx hb dX11_call_36 (by decide) ?_
        exact h_ret (pc := 37) X hI hQ hr (rk := 0) (Or.inl ⟨rfl, rfl⟩) ((⟨rfl, by decide, by decide⟩ : avi g Γ (vj (-1) 39) (.int (-1)))) (RO_of ((⟨rfl, by decide, by decide⟩ : avi g Γ (vj (-1) 39) (.int (-1)))) rfl) (Or.inl ⟨rfl, rfl, rfl⟩) dX11_call_37
      · refine lv_iload_n (pc := 23) hx hb dX11_call_23 rfl (lv_at hl 4 rfl) ?_
        refine lv_iconst (v := 4) (pc := 24) hx hb dX11_call_24 (by decide) ?_
        refine lv_icmp_gt (tgt := 36) (pc := 25) hx hb dX11_call_25 rfl (fun c9 => ?_) (fun k4 => ?_)
        · refine lv_iconst (v := (-1)) (pc := 36) hx hb dX11_call_36 (by decide) ?_
          exact h_ret (pc := 37) X hI hQ hr (rk := 0) (Or.inl ⟨rfl, rfl⟩) ((⟨rfl, by decide, by decide⟩ : avi g Γ (vj (-1) 39) (.int (-1)))) (RO_of ((⟨rfl, by decide, by decide⟩ : avi g Γ (vj (-1) 39) (.int (-1)))) rfl) (Or.inl ⟨rfl, rfl, rfl⟩) dX11_call_37
        · obtain ⟨kd9, hi_kd9, e_kd9⟩ := nI_of2 (M := 4) (n := 4) rfl k0 (Int32.not_lt.mp k4)
          subst e_kd9
          refine lv_aload (pc := 28) hx hb dX11_call_28 (lv_at hl 0 rfl) ?_
          refine h_call (pc := 30) (dd := 4) (avs := [.ref q8]) (rs := []) X hI (COV (SX4_hasRoom_0 l g) (by decide) vX11_161 rfl) ⟨Nat.le_refl _, Nat.le_refl _, Nat.le_refl _, Nat.le_refl _⟩ (by decide) hl.1 rfl rfl hU no_pf ⟨av_r t_q8 z_q8, trivial⟩ (fun _ => ⟨_, _, _, rfl, z_q8, (congrArg TS0.1 t_q8).trans rfl⟩) (md_sub (by decide)) (Nat.le_of_ble_eq_true rfl) dX11_call_30 (fun vr H locs hro hI hUn => ?_)
          obtain ⟨vhv12, rfl, hv12, imhv12⟩ := RO_some rfl hro
          obtain ⟨x14, rfl, -⟩ := avi_int rfl hv12
          obtain ⟨k13, rfl, lo_k13, hi_k13⟩ := avi_nn (lo := 0) (hi := 1) hv12
          refine lv_if_ne (tgt := 38) (pc := 33) hx hb dX11_call_33 rfl (fun c15 => ?_) (fun c15 => ?_)
          · refine lv_iload_n (pc := 38) hx hb dX11_call_38 rfl (lv_at hl 4 rfl) ?_
            refine lv_iconst (v := 3) (pc := 39) hx hb dX11_call_39 (by decide) ?_
            refine lv_icmp_ne (tgt := 56) (pc := 40) hx hb dX11_call_40 rfl (fun c8 => ?_) (fun c8 => ?_)
            · refine lv_aload (pc := 56) hx hb dX11_call_56 (lv_at hl 0 rfl) ?_
              refine h_get (pc := 58) X hI.1 (hFX11 165 _ rfl) z_q8 ((congrArg TS0.1 t_q8).trans rfl) rfl dX11_call_58 (fun vhv16 hv16 hEhv16 => ?_)
              obtain ⟨q17, rfl, t_q17, z_q17⟩ := avi_ref rfl hv16
              have t_q17 : Γ q17 = 3 := t_q17
              refine lv_iload (pc := 61) hx hb dX11_call_61 (lv_at hl 5 rfl) ?_
              refine lv_iload (pc := 63) hx hb dX11_call_63 (lv_at hl 6 rfl) ?_
              refine h_call (pc := 65) (dd := 4) (avs := [.ref q17, .int x5, .int x6]) (rs := []) X hI (COV (SX10_hasCouple_0 l g) (by decide) vX11_141 rfl) ⟨Nat.le_refl _, Nat.le_refl _, Nat.le_refl _, Nat.le_refl _⟩ (by decide) hl.1 rfl rfl hU no_pf ⟨av_r t_q17 z_q17, avi_top _, avi_top _, trivial⟩ (fun _ => ⟨_, _, _, rfl, z_q17, (congrArg TS0.1 t_q17).trans rfl⟩) (md_sub (by decide)) (Nat.le_of_ble_eq_true rfl) dX11_call_65 (fun vr H locs hro hI hUn => ?_)
              obtain ⟨vhv18, rfl, hv18, imhv18⟩ := RO_some rfl hro
              obtain ⟨x20, rfl, -⟩ := avi_int rfl hv18
              obtain ⟨k19, rfl, lo_k19, hi_k19⟩ := avi_nn (lo := 0) (hi := 1) hv18
              refine lv_istore (lv' := [(7, .int (nI k19)), (6, .ref q8), (0, .ref q1), (1, .int x2), (2, .int (nI hr9)), (3, .int (nI kd9)), (4, .int x5), (5, .int x6)]) (pc := 68) hx hb dX11_call_68 hl (by decide) rfl (fun ls hl => ?_)
              refine lv_iload (pc := 70) hx hb dX11_call_70 (lv_at hl 0 rfl) ?_
              refine lv_if_ne (tgt := 77) (pc := 72) hx hb dX11_call_72 rfl (fun c9 => ?_) (fun c9 => ?_)
              · have b9 := bool_1 (by omega) c9
                obtain ⟨on9, e_on9, lo_on9, hi_on9⟩ := im_at (j := 1) (lo := 0) (hi := 6) imhv18 (show (1, 1, 1, vi 0 6) ∈ _ by first | exact List.mem_cons_self | exact List.mem_cons_of_mem _ List.mem_cons_self) rfl rfl rfl rfl rfl b9
                obtain ⟨ot9, e_ot9, lo_ot9, hi_ot9⟩ := im_at (j := 2) (lo := 0) (hi := 6) imhv18 (show (1, 1, 2, vi 0 6) ∈ _ by first | exact List.mem_cons_self | exact List.mem_cons_of_mem _ List.mem_cons_self) rfl rfl rfl rfl rfl b9
                subst e_on9
                subst e_ot9
                refine lv_aload_n (pc := 77) hx hb dX11_call_77 rfl (lv_at hl 2 rfl) ?_
                refine lv_dup (pc := 78) hx hb dX11_call_78 rfl ?_
                refine h_get (pc := 79) X hI.1 (hFX11 171 _ rfl) z_q1 ((congrArg TS0.1 t_q1).trans rfl) rfl dX11_call_79 (fun vhv21 hv21 hEhv21 => ?_)
                obtain ⟨x22, rfl, -⟩ := avi_int rfl hv21
                refine lv_iconst (v := 1) (pc := 82) hx hb dX11_call_82 (by decide) ?_
                refine lv_iadd (pc := 83) hx hb dX11_call_83 ?_
                refine h_put (pc := 84) (b := itop) X hI (hFX11 171 _ rfl) z_q1 ((congrArg TS0.1 t_q1).trans rfl) rfl rfl (avi_top _) (by decide) (by decide) (by rw [t_q1]; decide) dX11_call_84 (fun H locs hI hUn hEp => ?_)
                rw [t_q1] at hUn
                refine lv_aload (pc := 87) hx hb dX11_call_87 (lv_at hl 1 rfl) ?_
                refine lv_iload_n (pc := 89) hx hb dX11_call_89 rfl (lv_at hl 4 rfl) ?_
                refine lv_iload_n (pc := 90) hx hb dX11_call_90 rfl (lv_at hl 5 rfl) ?_
                refine lv_iload (pc := 91) hx hb dX11_call_91 (lv_at hl 6 rfl) ?_
                refine lv_iload (pc := 93) hx hb dX11_call_93 (lv_at hl 7 rfl) ?_
                refine h_call (pc := 95) (dd := 4) (avs := [.ref q8, .int (nI hr9), .int (nI kd9), .int (nI on9), .int (nI ot9)]) (rs := []) X hI (COV (SX4_append_h1 l g) (by decide) vX11_174 rfl) ⟨Nat.le_refl _, Nat.le_refl _, Nat.le_refl _, Nat.le_refl _⟩ (by decide) hl.1 rfl rfl hU no_pf ⟨av_r t_q8 z_q8, avi_nI (lo := 1) (hi := 24) (k := hr9) (by omega) (by omega) (by decide), avi_nI (lo := 0) (hi := 4) (k := kd9) (by omega) (by omega) (by decide), avi_nI (lo := 0) (hi := 6) (k := on9) (by omega) (by omega) (by decide), avi_nI (lo := 0) (hi := 6) (k := ot9) (by omega) (by omega) (by decide), trivial⟩ (fun _ => ⟨_, _, _, rfl, z_q8, (congrArg TS0.1 t_q8).trans rfl⟩) (md_sub (by decide)) (Nat.le_of_ble_eq_true rfl) dX11_call_95 (fun vr H locs hro hI hUn => ?_)
                obtain ⟨vhv23, rfl, hv23, imhv23⟩ := RO_some rfl hro
                obtain ⟨x24, rfl, lo_x24, hi_x24⟩ := avi_int rfl hv23
                have lo_x24 : (-1 : Int) ≤ x24.toInt := lo_x24
                have hi_x24 : x24.toInt ≤ (39 : Int) := hi_x24
                exact h_ret (pc := 98) X hI hQ hr (rk := 0) (Or.inl ⟨rfl, rfl⟩) ((hv23 : avi g Γ (vj (-1) 39) (.int x24))) (RO_of ((hv23 : avi g Γ (vj (-1) 39) (.int x24))) rfl) (Or.inl ⟨rfl, rfl, rfl⟩) dX11_call_98
              · refine lv_iconst (v := (-1)) (pc := 75) hx hb dX11_call_75 (by decide) ?_
                exact h_ret (pc := 76) X hI hQ hr (rk := 0) (Or.inl ⟨rfl, rfl⟩) ((⟨rfl, by decide, by decide⟩ : avi g Γ (vj (-1) 39) (.int (-1)))) (RO_of ((⟨rfl, by decide, by decide⟩ : avi g Γ (vj (-1) 39) (.int (-1)))) rfl) (Or.inl ⟨rfl, rfl, rfl⟩) dX11_call_76
            · refine lv_aload (pc := 43) hx hb dX11_call_43 (lv_at hl 0 rfl) ?_
              refine h_get (pc := 45) X hI.1 (hFX11 165 _ rfl) z_q8 ((congrArg TS0.1 t_q8).trans rfl) rfl dX11_call_45 (fun vhv25 hv25 hEhv25 => ?_)
              obtain ⟨q26, rfl, t_q26, z_q26⟩ := avi_ref rfl hv25
              have t_q26 : Γ q26 = 3 := t_q26
              refine lv_iload (pc := 48) hx hb dX11_call_48 (lv_at hl 5 rfl) ?_
              refine h_call (pc := 50) (dd := 4) (avs := [.ref q26, .int x5]) (rs := []) X hI (COV (SX10_hasPerson_0 l g) (by decide) vX11_168 rfl) ⟨Nat.le_refl _, Nat.le_refl _, Nat.le_refl _, Nat.le_refl _⟩ (by decide) hl.1 rfl rfl hU no_pf ⟨av_r t_q26 z_q26, avi_top _, trivial⟩ (fun _ => ⟨_, _, _, rfl, z_q26, (congrArg TS0.1 t_q26).trans rfl⟩) (md_sub (by decide)) (Nat.le_of_ble_eq_true rfl) dX11_call_50 (fun vr H locs hro hI hUn => ?_)
              obtain ⟨vhv27, rfl, hv27, imhv27⟩ := RO_some rfl hro
              obtain ⟨x29, rfl, -⟩ := avi_int rfl hv27
              obtain ⟨k28, rfl, lo_k28, hi_k28⟩ := avi_nn (lo := 0) (hi := 1) hv27
              refine lv_goto (tgt := 68) (pc := 53) hx hb dX11_call_53 rfl ?_
              refine lv_istore (lv' := [(7, .int (nI k28)), (6, .ref q8), (0, .ref q1), (1, .int x2), (2, .int (nI hr9)), (3, .int (nI kd9)), (4, .int x5), (5, .int x6)]) (pc := 68) hx hb dX11_call_68 hl (by decide) rfl (fun ls hl => ?_)
              refine lv_iload (pc := 70) hx hb dX11_call_70 (lv_at hl 0 rfl) ?_
              refine lv_if_ne (tgt := 77) (pc := 72) hx hb dX11_call_72 rfl (fun c9 => ?_) (fun c9 => ?_)
              · have b9 := bool_1 (by omega) c9
                obtain ⟨on9, e_on9, lo_on9, hi_on9⟩ := im_at (j := 1) (lo := 0) (hi := 6) imhv27 (show (1, 1, 1, vi 0 6) ∈ _ by first | exact List.mem_cons_self | exact List.mem_cons_of_mem _ List.mem_cons_self) rfl rfl rfl rfl rfl b9
                subst e_on9
                refine lv_aload_n (pc := 77) hx hb dX11_call_77 rfl (lv_at hl 2 rfl) ?_
                refine lv_dup (pc := 78) hx hb dX11_call_78 rfl ?_
                refine h_get (pc := 79) X hI.1 (hFX11 171 _ rfl) z_q1 ((congrArg TS0.1 t_q1).trans rfl) rfl dX11_call_79 (fun vhv30 hv30 hEhv30 => ?_)
                obtain ⟨x31, rfl, -⟩ := avi_int rfl hv30
                refine lv_iconst (v := 1) (pc := 82) hx hb dX11_call_82 (by decide) ?_
                refine lv_iadd (pc := 83) hx hb dX11_call_83 ?_
                refine h_put (pc := 84) (b := itop) X hI (hFX11 171 _ rfl) z_q1 ((congrArg TS0.1 t_q1).trans rfl) rfl rfl (avi_top _) (by decide) (by decide) (by rw [t_q1]; decide) dX11_call_84 (fun H locs hI hUn hEp => ?_)
                rw [t_q1] at hUn
                refine lv_aload (pc := 87) hx hb dX11_call_87 (lv_at hl 1 rfl) ?_
                refine lv_iload_n (pc := 89) hx hb dX11_call_89 rfl (lv_at hl 4 rfl) ?_
                refine lv_iload_n (pc := 90) hx hb dX11_call_90 rfl (lv_at hl 5 rfl) ?_
                refine lv_iload (pc := 91) hx hb dX11_call_91 (lv_at hl 6 rfl) ?_
                refine lv_iload (pc := 93) hx hb dX11_call_93 (lv_at hl 7 rfl) ?_
                refine h_call (pc := 95) (dd := 4) (avs := [.ref q8, .int (nI hr9), .int (nI kd9), .int (nI on9), .int x6]) (rs := []) X hI (COV (SX4_append_h0 l g) (by decide) vX11_174 rfl) ⟨Nat.le_refl _, Nat.le_refl _, Nat.le_refl _, Nat.le_refl _⟩ (by decide) hl.1 rfl rfl hU no_pf ⟨av_r t_q8 z_q8, avi_nI (lo := 1) (hi := 24) (k := hr9) (by omega) (by omega) (by decide), ⟨rfl, by rw [c8]; decide, by rw [c8]; decide⟩, avi_nI (lo := 0) (hi := 6) (k := on9) (by omega) (by omega) (by decide), avi_top _, trivial⟩ (fun _ => ⟨_, _, _, rfl, z_q8, (congrArg TS0.1 t_q8).trans rfl⟩) (md_sub (by decide)) (Nat.le_of_ble_eq_true rfl) dX11_call_95 (fun vr H locs hro hI hUn => ?_)
                obtain ⟨vhv32, rfl, hv32, imhv32⟩ := RO_some rfl hro
                obtain ⟨x33, rfl, lo_x33, hi_x33⟩ := avi_int rfl hv32
                have lo_x33 : (-1 : Int) ≤ x33.toInt := lo_x33
                have hi_x33 : x33.toInt ≤ (39 : Int) := hi_x33
                exact h_ret (pc := 98) X hI hQ hr (rk := 0) (Or.inl ⟨rfl, rfl⟩) ((hv32 : avi g Γ (vj (-1) 39) (.int x33))) (RO_of ((hv32 : avi g Γ (vj (-1) 39) (.int x33))) rfl) (Or.inl ⟨rfl, rfl, rfl⟩) dX11_call_98
              · refine lv_iconst (v := (-1)) (pc := 75) hx hb dX11_call_75 (by decide) ?_
                exact h_ret (pc := 76) X hI hQ hr (rk := 0) (Or.inl ⟨rfl, rfl⟩) ((⟨rfl, by decide, by decide⟩ : avi g Γ (vj (-1) 39) (.int (-1)))) (RO_of ((⟨rfl, by decide, by decide⟩ : avi g Γ (vj (-1) 39) (.int (-1)))) rfl) (Or.inl ⟨rfl, rfl, rfl⟩) dX11_call_76
          · refine lv_iconst (v := (-1)) (pc := 36) hx hb dX11_call_36 (by decide) ?_
            exact h_ret (pc := 37) X hI hQ hr (rk := 0) (Or.inl ⟨rfl, rfl⟩) ((⟨rfl, by decide, by decide⟩ : avi g Γ (vj (-1) 39) (.int (-1)))) (RO_of ((⟨rfl, by decide, by decide⟩ : avi g Γ (vj (-1) 39) (.int (-1)))) rfl) (Or.inl ⟨rfl, rfl, rfl⟩) dX11_call_37
  · refine lv_astoreN (lv' := [(6, .null), (0, .ref q1), (1, .int x2), (2, .int x3), (3, .int x4), (4, .int x5), (5, .int x6)]) (pc := 5) hx hb dX11_call_5 hl (by decide) rfl (fun ls hl => ?_)
    refine lv_aloadN (pc := 7) hx hb dX11_call_7 (lv_at hl 0 rfl) ?_
    refine lv_ifnullN (tgt := 36) (pc := 9) hx hb dX11_call_9 rfl ?_
    refine lv_iconst (v := (-1)) (pc := 36) hx hb dX11_call_36 (by decide) ?_
    exact h_ret (pc := 37) X hI hQ hr (rk := 0) (Or.inl ⟨rfl, rfl⟩) ((⟨rfl, by decide, by decide⟩ : avi g Γ (vj (-1) 39) (.int (-1)))) (RO_of ((⟨rfl, by decide, by decide⟩ : avi g Γ (vj (-1) 39) (.int (-1)))) rfl) (Or.inl ⟨rfl, rfl, rfl⟩) dX11_call_37

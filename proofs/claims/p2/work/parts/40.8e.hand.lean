/-! a call is laid into a plan -/
theorem m_617 : (Cond.code yX4_hasRoom prog_6_method_2_code 1 (Option.some FieldType.boolean)) ∈ BW := bw (tb3 137 (by decide +kernel)) (by decide +kernel)
theorem dX4_hasRoom_0 : decode cX4_hasRoom 0 = .ok (.aload_n 0, 1) := by decide +kernel
theorem dX4_hasRoom_1 : decode cX4_hasRoom 1 = .ok (.getfield 37, 3) := by decide +kernel
theorem dX4_hasRoom_4 : decode cX4_hasRoom 4 = .ok (.bipush 40, 2) := by decide +kernel
theorem dX4_hasRoom_6 : decode cX4_hasRoom 6 = .ok (.if_icmp .ge 7, 3) := by decide +kernel
theorem dX4_hasRoom_13 : decode cX4_hasRoom 13 = .ok (.iconst 0, 1) := by decide +kernel
theorem dX4_hasRoom_14 : decode cX4_hasRoom 14 = .ok (.ireturn, 1) := by decide +kernel
theorem dX4_hasRoom_9 : decode cX4_hasRoom 9 = .ok (.iconst 1, 1) := by decide +kernel
theorem dX4_hasRoom_10 : decode cX4_hasRoom 10 = .ok (.goto 4, 3) := by decide +kernel
theorem m_622 : (Cond.code yX4_append prog_6_method_3_code 6 (Option.some FieldType.int)) ∈ BW := bw (tb3 142 (by decide +kernel)) (by decide +kernel)
theorem dX4_append_0 : decode cX4_append 0 = .ok (.aload_n 0, 1) := by decide +kernel
theorem m_623 : (Cond.methodLink "NoonValley$Plan" 41 yX4_hasRoom) ∈ BW := bw (tb3 143 (by decide +kernel)) (by decide +kernel)
theorem m_615 : (Cond.instanceMethod yX4_hasRoom) ∈ BW := bw (tb3 135 (by decide +kernel)) (by decide +kernel)
theorem m_616 : (Cond.selects "NoonValley$Plan" yX4_hasRoom yX4_hasRoom) ∈ BW := bw (tb3 136 (by decide +kernel)) (by decide +kernel)
theorem vX4_41 : LV RX4 41 RX4 yX4_hasRoom cX4_hasRoom 1 (some .boolean) 0 := ⟨m_623, m_615, m_616, m_18, m_617, rfl, by decide, by decide, by decide +kernel⟩
theorem dX4_append_1 : decode cX4_append 1 = .ok (.invokevirtual 41, 3) := by decide +kernel
theorem dX4_append_4 : decode cX4_append 4 = .ok (.ifCond .ne 5, 3) := by decide +kernel
theorem dX4_append_9 : decode cX4_append 9 = .ok (.aload_n 0, 1) := by decide +kernel
theorem dX4_append_10 : decode cX4_append 10 = .ok (.getfield 11, 3) := by decide +kernel
theorem dX4_append_13 : decode cX4_append 13 = .ok (.aload_n 0, 1) := by decide +kernel
theorem dX4_append_14 : decode cX4_append 14 = .ok (.getfield 37, 3) := by decide +kernel
theorem dX4_append_17 : decode cX4_append 17 = .ok (.iload_n 1, 1) := by decide +kernel
theorem dX4_append_18 : decode cX4_append 18 = .ok (.iastore, 1) := by decide +kernel
theorem dX4_append_19 : decode cX4_append 19 = .ok (.aload_n 0, 1) := by decide +kernel
theorem dX4_append_20 : decode cX4_append 20 = .ok (.getfield 15, 3) := by decide +kernel
theorem dX4_append_23 : decode cX4_append 23 = .ok (.aload_n 0, 1) := by decide +kernel
theorem dX4_append_24 : decode cX4_append 24 = .ok (.getfield 37, 3) := by decide +kernel
theorem dX4_append_27 : decode cX4_append 27 = .ok (.iload_n 2, 1) := by decide +kernel
theorem dX4_append_28 : decode cX4_append 28 = .ok (.iastore, 1) := by decide +kernel
theorem dX4_append_29 : decode cX4_append 29 = .ok (.aload_n 0, 1) := by decide +kernel
theorem dX4_append_30 : decode cX4_append 30 = .ok (.getfield 18, 3) := by decide +kernel
theorem dX4_append_33 : decode cX4_append 33 = .ok (.aload_n 0, 1) := by decide +kernel
theorem dX4_append_34 : decode cX4_append 34 = .ok (.getfield 37, 3) := by decide +kernel
theorem dX4_append_37 : decode cX4_append 37 = .ok (.iload_n 3, 1) := by decide +kernel
theorem dX4_append_38 : decode cX4_append 38 = .ok (.iastore, 1) := by decide +kernel
theorem dX4_append_39 : decode cX4_append 39 = .ok (.aload_n 0, 1) := by decide +kernel
theorem dX4_append_40 : decode cX4_append 40 = .ok (.getfield 21, 3) := by decide +kernel
theorem dX4_append_43 : decode cX4_append 43 = .ok (.aload_n 0, 1) := by decide +kernel
theorem dX4_append_44 : decode cX4_append 44 = .ok (.getfield 37, 3) := by decide +kernel
theorem dX4_append_47 : decode cX4_append 47 = .ok (.iload 4, 2) := by decide +kernel
theorem dX4_append_49 : decode cX4_append 49 = .ok (.iastore, 1) := by decide +kernel
theorem dX4_append_50 : decode cX4_append 50 = .ok (.aload_n 0, 1) := by decide +kernel
theorem dX4_append_51 : decode cX4_append 51 = .ok (.getfield 37, 3) := by decide +kernel
theorem dX4_append_54 : decode cX4_append 54 = .ok (.istore 5, 2) := by decide +kernel
theorem dX4_append_56 : decode cX4_append 56 = .ok (.iload 5, 2) := by decide +kernel
theorem dX4_append_58 : decode cX4_append 58 = .ok (.ifCond .le 43, 3) := by decide +kernel
theorem dX4_append_101 : decode cX4_append 101 = .ok (.aload_n 0, 1) := by decide +kernel
theorem dX4_append_102 : decode cX4_append 102 = .ok (.getfield 24, 3) := by decide +kernel
theorem dX4_append_105 : decode cX4_append 105 = .ok (.iload 5, 2) := by decide +kernel
theorem dX4_append_107 : decode cX4_append 107 = .ok (.aload_n 0, 1) := by decide +kernel
theorem dX4_append_108 : decode cX4_append 108 = .ok (.getfield 37, 3) := by decide +kernel
theorem dX4_append_111 : decode cX4_append 111 = .ok (.iastore, 1) := by decide +kernel
theorem dX4_append_112 : decode cX4_append 112 = .ok (.aload_n 0, 1) := by decide +kernel
theorem dX4_append_113 : decode cX4_append 113 = .ok (.dup, 1) := by decide +kernel
theorem dX4_append_114 : decode cX4_append 114 = .ok (.getfield 37, 3) := by decide +kernel
theorem dX4_append_117 : decode cX4_append 117 = .ok (.iconst 1, 1) := by decide +kernel
theorem dX4_append_118 : decode cX4_append 118 = .ok (.iadd, 1) := by decide +kernel
theorem dX4_append_119 : decode cX4_append 119 = .ok (.putfield 37, 3) := by decide +kernel
theorem dX4_append_122 : decode cX4_append 122 = .ok (.aload_n 0, 1) := by decide +kernel
theorem dX4_append_123 : decode cX4_append 123 = .ok (.getfield 37, 3) := by decide +kernel
theorem dX4_append_126 : decode cX4_append 126 = .ok (.iconst 1, 1) := by decide +kernel
theorem dX4_append_127 : decode cX4_append 127 = .ok (.isub, 1) := by decide +kernel
theorem dX4_append_128 : decode cX4_append 128 = .ok (.ireturn, 1) := by decide +kernel
theorem dX4_append_61 : decode cX4_append 61 = .ok (.aload_n 0, 1) := by decide +kernel
theorem dX4_append_62 : decode cX4_append 62 = .ok (.getfield 11, 3) := by decide +kernel
theorem dX4_append_65 : decode cX4_append 65 = .ok (.aload_n 0, 1) := by decide +kernel
theorem dX4_append_66 : decode cX4_append 66 = .ok (.getfield 24, 3) := by decide +kernel
theorem dX4_append_69 : decode cX4_append 69 = .ok (.iload 5, 2) := by decide +kernel
theorem dX4_append_71 : decode cX4_append 71 = .ok (.iconst 1, 1) := by decide +kernel
theorem dX4_append_72 : decode cX4_append 72 = .ok (.isub, 1) := by decide +kernel
theorem dX4_append_73 : decode cX4_append 73 = .ok (.iaload, 1) := by decide +kernel
theorem dX4_append_74 : decode cX4_append 74 = .ok (.iaload, 1) := by decide +kernel
theorem dX4_append_75 : decode cX4_append 75 = .ok (.iload_n 1, 1) := by decide +kernel
theorem dX4_append_76 : decode cX4_append 76 = .ok (.if_icmp .le 25, 3) := by decide +kernel
theorem dX4_append_79 : decode cX4_append 79 = .ok (.aload_n 0, 1) := by decide +kernel
theorem dX4_append_80 : decode cX4_append 80 = .ok (.getfield 24, 3) := by decide +kernel
theorem dX4_append_83 : decode cX4_append 83 = .ok (.iload 5, 2) := by decide +kernel
theorem dX4_append_85 : decode cX4_append 85 = .ok (.aload_n 0, 1) := by decide +kernel
theorem dX4_append_86 : decode cX4_append 86 = .ok (.getfield 24, 3) := by decide +kernel
theorem dX4_append_89 : decode cX4_append 89 = .ok (.iload 5, 2) := by decide +kernel
theorem dX4_append_91 : decode cX4_append 91 = .ok (.iconst 1, 1) := by decide +kernel
theorem dX4_append_92 : decode cX4_append 92 = .ok (.isub, 1) := by decide +kernel
theorem dX4_append_93 : decode cX4_append 93 = .ok (.iaload, 1) := by decide +kernel
theorem dX4_append_94 : decode cX4_append 94 = .ok (.iastore, 1) := by decide +kernel
theorem dX4_append_95 : decode cX4_append 95 = .ok (.iinc 5 (-1), 3) := by decide +kernel
theorem dX4_append_98 : decode cX4_append 98 = .ok (.goto (-42), 3) := by decide +kernel
theorem dX4_append_7 : decode cX4_append 7 = .ok (.iconst (-1), 1) := by decide +kernel
theorem dX4_append_8 : decode cX4_append 8 = .ok (.ireturn, 1) := by decide +kernel
noncomputable def pX4_hasRoom_h0 : SPEC := (0, [vr 4], vi 0 1, [], [], [])
noncomputable def pX4_append_h0 : SPEC := (1, [vr 4, vi 1 24, vi 3 3, vi 0 6, itop], vj (-1) 39, [], [(4, 1), (31, 0), (32, 0), (33, 0), (34, 0), (35, 0)], [])
noncomputable def pX4_append_h1 : SPEC := (1, [vr 4, vi 1 24, vi 0 4, vi 0 6, vi 0 6], vj (-1) 39, [], [(4, 1), (31, 0), (32, 0), (33, 0), (34, 0), (35, 0)], [])
set_option maxHeartbeats 4000000 in
set_option maxRecDepth 100000 in
theorem RX4_hasRoom (l : Launch) (g : GG) : SMX l g TS0 yX4_hasRoom cX4_hasRoom 1 (some .boolean) pX4_hasRoom_h0 (fun Γ As H v => ∀ (b : Nat) (c : Int32), As = [.ref b] → FE g b 4 1 H (.int c) → v = .int 1 → c.toInt < 40) := by
  refine SMX_hand (own := RX4) rfl (by decide) (by decide) ?_
  intro p e s m below meth c Γ As ls Q hU hV hQ X hr hI hPF hl
  have hx := X.1
  have hb := X.2.1
  obtain ⟨v1, rfl, w1⟩ := VR1 (show VR g Γ [_] As from hV)
  obtain ⟨q1, rfl, t_q1, z_q1⟩ := avi_ref rfl w1
  have t_q1 : Γ q1 = 4 := t_q1
  have hl : lv_has ls 1 [(0, .ref q1)] := hl
  obtain ⟨vc, hvc, GC⟩ := h_fe (k := 1) (r := (RX4, TX4, 9)) hI.1 z_q1 ((congrArg TS0.1 t_q1).trans rfl) rfl rfl (by decide)
  obtain ⟨xc, rfl, -⟩ := avi_int rfl hvc
  obtain ⟨n9, rfl, lo_n9, hi_n9⟩ := avi_nn (lo := 0) (hi := 40) hvc
  refine lv_aload_n (pc := 0) hx hb dX4_hasRoom_0 rfl (lv_at hl 0 rfl) ?_
  refine h_get (pc := 1) X hI.1 (hFX4 37 _ rfl) z_q1 ((congrArg TS0.1 t_q1).trans rfl) rfl dX4_hasRoom_1 (fun vhv2 hv2 hEhv2 => ?_)
  obtain rfl := FE_fun hEhv2 GC
  refine lv_bipush (v := 40) (pc := 4) hx hb dX4_hasRoom_4 (by decide) ?_
  refine lv_icmp_ge (tgt := 13) (pc := 6) hx hb dX4_hasRoom_6 rfl (fun c9 => ?_) (fun c9 => ?_)
  · refine lv_iconst (v := 0) (pc := 13) hx hb dX4_hasRoom_13 (by decide) ?_
    exact h_retX (P := fun Γ As H v => ∀ (b : Nat) (c : Int32), As = [.ref b] → FE g b 4 1 H (.int c) → v = .int 1 → c.toInt < 40) (pc := 14) X hI hQ hr (by decide) (by decide) (RO_of (avi_nI (lo := 0) (hi := 1) (k := 0) (by omega) (by omega) (by decide)) rfl) (fun b9 c9 _ _ h9 => absurd (Value.int.inj h9) (by decide)) dX4_hasRoom_14
  · have i9 : n9 < 40 := (nI_ltI (by omega) (by omega)).mp (Int32.not_le.mp c9)
    refine lv_iconst (v := 1) (pc := 9) hx hb dX4_hasRoom_9 (by decide) ?_
    refine lv_goto (tgt := 14) (pc := 10) hx hb dX4_hasRoom_10 rfl ?_
    exact h_retX (P := fun Γ As H v => ∀ (b : Nat) (c : Int32), As = [.ref b] → FE g b 4 1 H (.int c) → v = .int 1 → c.toInt < 40) (pc := 14) X hI hQ hr (by decide) (by decide) (RO_of (avi_nI (lo := 0) (hi := 1) (k := 1) (by omega) (by omega) (by decide)) rfl) (fun b9 c9 e9 F9 _ => by
    cases e9
    have := FE_fun F9 GC
    cases this
    rw [nI_toInt (by omega)]
    omega) dX4_hasRoom_14
set_option maxHeartbeats 4000000 in
set_option maxRecDepth 100000 in
theorem SX4_append_h0 (l : Launch) (g : GG) : SM l g TS0 yX4_append cX4_append 6 (some .int) pX4_append_h0 := by
  refine SM_hand (own := RX4) rfl (by decide) (by decide) ?_
  intro p e s m below meth c Γ As ls Q hU hV hQ X hr hI hPF hl
  have hx := X.1
  have hb := X.2.1
  obtain ⟨v1, v2, v3, v4, v5, rfl, w1, w2, w3, w4, w5⟩ := VR5 (show VR g Γ [_, _, _, _, _] As from hV)
  obtain ⟨q1, rfl, t_q1, z_q1⟩ := avi_ref rfl w1
  have t_q1 : Γ q1 = 4 := t_q1
  obtain ⟨x3, rfl, -⟩ := avi_int rfl w2
  obtain ⟨k2, rfl, lo_k2, hi_k2⟩ := avi_nn (lo := 1) (hi := 24) w2
  obtain ⟨x4, rfl, lo_x4, hi_x4⟩ := avi_int rfl w3
  obtain ⟨x6, rfl, -⟩ := avi_int rfl w4
  obtain ⟨k5, rfl, lo_k5, hi_k5⟩ := avi_nn (lo := 0) (hi := 6) w4
  obtain ⟨x7, rfl, -⟩ := avi_int rfl w5
  have hl : lv_has ls 6 [(0, .ref q1), (1, .int (nI k2)), (2, .int x4), (3, .int (nI k5)), (4, .int x7)] := hl
  obtain ⟨vc, hvc, GC⟩ := h_fe (k := 1) (r := (RX4, TX4, 9)) hI.1 z_q1 ((congrArg TS0.1 t_q1).trans rfl) rfl rfl (by decide)
  obtain ⟨xc, rfl, -⟩ := avi_int rfl hvc
  obtain ⟨n9, rfl, lo_n9, hi_n9⟩ := avi_nn (lo := 0) (hi := 40) hvc
  have V0 := hI.1.2.1 rfl
  obtain ⟨V1, V2, V3⟩ := V0
  have e3 : x4 = 3 := Int32.toInt_inj.mp (Int.le_antisymm hi_x4 lo_x4)
  subst e3
  refine lv_aload_n (pc := 0) hx hb dX4_append_0 rfl (lv_at hl 0 rfl) ?_
  refine h_callX (pc := 1) (dd := 1) (As := []) (rs := []) X hI (RX4_hasRoom l g) (by decide) vX4_41 rfl ⟨Nat.le_refl _, Nat.le_refl _, Nat.le_refl _, Nat.le_refl _⟩ (by decide) hl.1 rfl rfl hU no_pf ⟨av_r t_q1 z_q1, trivial⟩ z_q1 ((congrArg TS0.1 t_q1).trans rfl) (md_sub (by decide)) (Nat.le_of_ble_eq_true rfl) dX4_append_1 (fun vr H locs hro hI hUn hPP => ?_)
  obtain ⟨wr, rfl, hwr, -⟩ := RO_some rfl hro
  have hPP := hPP wr rfl q1 (nI n9) rfl GC
  have GC := hUn.fld t_q1 (by decide) rfl (by decide) GC
  have V2 := INV2_keep V2 hUn (by decide)
  obtain ⟨xr, rfl, -⟩ := avi_int rfl hwr
  obtain ⟨kr, rfl, lo_kr, hi_kr⟩ := avi_nn (lo := 0) (hi := 1) hwr
  refine lv_if_ne (tgt := 9) (pc := 4) hx hb dX4_append_4 rfl (fun c9 => ?_) (fun c9 => ?_)
  · have k1 : kr = 1 := by
      rcases (show kr = 0 ∨ kr = 1 by omega) with h | h
      · exact absurd (by rw [h]; rfl) c9
      · exact h
    have room9 : n9 < 40 := by
      have := hPP (by rw [k1]; rfl)
      rw [nI_toInt (by omega)] at this
      omega
    obtain ⟨e32, e34, GK, GD9, fk, fc, AK, AC, hkc⟩ := V2 q1 t_q1
    have OT : ∀ q9, Γ q9 = 4 → q9 ≠ q1 → IV2 g Γ q9 H := fun q9 h _ => V2 q9 h
    generalize ekq : q1 + 2 = kq at e32 GK AK
    generalize ecq : q1 + 4 = cq at e34 GD9 AC
    have t_kq := e32
    have t_cq := e34
    have z_kq : Γ kq ≠ 0 := by rw [t_kq]; decide
    have z_cq : Γ cq ≠ 0 := by rw [t_cq]; decide
    have hI := HI_x hI
    refine lv_aload_n (pc := 9) hx hb dX4_append_9 rfl (lv_at hl 0 rfl) ?_
    refine h_get (pc := 10) X hI.1 (hFX4 11 _ rfl) z_q1 ((congrArg TSx.1 t_q1).trans rfl) rfl dX4_append_10 (fun vhv8 hv8 hEhv8 => ?_)
    obtain ⟨q9, rfl, t_q9, z_q9⟩ := avi_ref rfl hv8
    have t_q9 : Γ q9 = 31 := t_q9
    refine lv_aload_n (pc := 13) hx hb dX4_append_13 rfl (lv_at hl 0 rfl) ?_
    refine h_get (pc := 14) X hI.1 (hFX4 37 _ rfl) z_q1 ((congrArg TSx.1 t_q1).trans rfl) rfl dX4_append_14 (fun vhv10 hv10 hEhv10 => ?_)
    obtain rfl := FE_fun hEhv10 GC
    refine lv_iload_n (pc := 17) hx hb dX4_append_17 rfl (lv_at hl 1 rfl) ?_
    refine h_sto (pc := 18) (b := vi 0 24) X hI z_q9 (Or.inl ⟨rfl, rfl⟩) ((congrArg TSx.1 t_q9).trans rfl) (avi_nI (lo := 0) (hi := 39) (k := n9) (Nat.zero_le _) (by omega) (by decide)) (by decide) (by decide) (avi_nI (lo := 0) (hi := 24) (k := k2) (by omega) (by omega) (by decide)) (by decide) (by rw [t_q9]; decide) dX4_append_18 (fun H locs hI hUn => ?_)
    rw [t_q9] at hUn
    have GC := hUn.fld t_q1 (by decide) rfl (by decide) GC
    have GK := hUn.fld t_q1 (by decide) rfl (by decide) GK
    have GD9 := hUn.fld t_q1 (by decide) rfl (by decide) GD9
    have AK := AK.kept (hUn.arr t_kq (by decide) rfl (by decide))
    have AC := AC.kept (hUn.arr t_cq (by decide) rfl (by decide))
    have OT : ∀ q9, Γ q9 = 4 → q9 ≠ q1 → IV2 g Γ q9 H := fun q9 h1 h2 => IV2_un h1 (OT q9 h1 h2) (Un_0 hUn) (by decide)
    refine lv_aload_n (pc := 19) hx hb dX4_append_19 rfl (lv_at hl 0 rfl) ?_
    refine h_get (pc := 20) X hI.1 (hFX4 15 _ rfl) z_q1 ((congrArg TSx.1 t_q1).trans rfl) rfl dX4_append_20 (fun vhv11 hv11 hEhv11 => ?_)
    obtain rfl := FE_fun hEhv11 GK
    refine lv_aload_n (pc := 23) hx hb dX4_append_23 rfl (lv_at hl 0 rfl) ?_
    refine h_get (pc := 24) X hI.1 (hFX4 37 _ rfl) z_q1 ((congrArg TSx.1 t_q1).trans rfl) rfl dX4_append_24 (fun vhv12 hv12 hEhv12 => ?_)
    obtain rfl := FE_fun hEhv12 GC
    refine lv_iload_n (pc := 27) hx hb dX4_append_27 rfl (lv_at hl 2 rfl) ?_
    refine h_stK (pc := 28) (kd := 1) (n := 40) (a := vi 0 4) (k := n9) (x := 3) X hI z_kq (Or.inl ⟨rfl, rfl⟩) ((congrArg TSx.1 t_kq).trans rfl) AK (bndK (Or.inr (Or.inl rfl)) hI.1 t_kq (by decide) rfl AK) (by omega) (by decide) (avi_nI (lo := 0) (hi := 4) (k := 3) (by omega) (by omega) (by decide)) (by rw [t_kq]; decide) (fun _ _ _ _ => INVx) dX4_append_28 (fun H locs hI AK hne hUn => ?_)
    rw [t_kq] at hUn
    have GC := hUn.fld t_q1 (by decide) rfl (by decide) GC
    have GK := hUn.fld t_q1 (by decide) rfl (by decide) GK
    have GD9 := hUn.fld t_q1 (by decide) rfl (by decide) GD9
    have AC := AC.kept (hUn.arr t_cq (by decide) rfl (by decide))
    have OT : ∀ q9, Γ q9 = 4 → q9 ≠ q1 → IV2 g Γ q9 H := fun q9 h1 h2 => by
      have h3 := OT q9 h1 h2
      have d1 := h3.1
      have d2 := h3.2.1
      refine IV2_ne h3 hne (fun e => ?_) (fun e => ?_) (fun e => ?_)
      · rw [e, t_kq] at h1; exact absurd h1 (by decide)
      · rw [← ekq] at e; omega
      · rw [e, t_kq] at d2; exact absurd d2 (by decide)
    refine lv_aload_n (pc := 29) hx hb dX4_append_29 rfl (lv_at hl 0 rfl) ?_
    refine h_get (pc := 30) X hI.1 (hFX4 18 _ rfl) z_q1 ((congrArg TSx.1 t_q1).trans rfl) rfl dX4_append_30 (fun vhv13 hv13 hEhv13 => ?_)
    obtain ⟨q14, rfl, t_q14, z_q14⟩ := avi_ref rfl hv13
    have t_q14 : Γ q14 = 33 := t_q14
    refine lv_aload_n (pc := 33) hx hb dX4_append_33 rfl (lv_at hl 0 rfl) ?_
    refine h_get (pc := 34) X hI.1 (hFX4 37 _ rfl) z_q1 ((congrArg TSx.1 t_q1).trans rfl) rfl dX4_append_34 (fun vhv15 hv15 hEhv15 => ?_)
    obtain rfl := FE_fun hEhv15 GC
    refine lv_iload_n (pc := 37) hx hb dX4_append_37 rfl (lv_at hl 3 rfl) ?_
    refine h_sto (pc := 38) (b := vi 0 6) X hI z_q14 (Or.inl ⟨rfl, rfl⟩) ((congrArg TSx.1 t_q14).trans rfl) (avi_nI (lo := 0) (hi := 39) (k := n9) (Nat.zero_le _) (by omega) (by decide)) (by decide) (by decide) (avi_nI (lo := 0) (hi := 6) (k := k5) (by omega) (by omega) (by decide)) (by decide) (by rw [t_q14]; decide) dX4_append_38 (fun H locs hI hUn => ?_)
    rw [t_q14] at hUn
    have GC := hUn.fld t_q1 (by decide) rfl (by decide) GC
    have GK := hUn.fld t_q1 (by decide) rfl (by decide) GK
    have GD9 := hUn.fld t_q1 (by decide) rfl (by decide) GD9
    have AC := AC.kept (hUn.arr t_cq (by decide) rfl (by decide))
    have AK := AK.kept (hUn.arr t_kq (by decide) rfl (by decide))
    have OT : ∀ q9, Γ q9 = 4 → q9 ≠ q1 → IV2 g Γ q9 H := fun q9 h1 h2 => IV2_un h1 (OT q9 h1 h2) (Un_0 hUn) (by decide)
    refine lv_aload_n (pc := 39) hx hb dX4_append_39 rfl (lv_at hl 0 rfl) ?_
    refine h_get (pc := 40) X hI.1 (hFX4 21 _ rfl) z_q1 ((congrArg TSx.1 t_q1).trans rfl) rfl dX4_append_40 (fun vhv16 hv16 hEhv16 => ?_)
    obtain rfl := FE_fun hEhv16 GD9
    refine lv_aload_n (pc := 43) hx hb dX4_append_43 rfl (lv_at hl 0 rfl) ?_
    refine h_get (pc := 44) X hI.1 (hFX4 37 _ rfl) z_q1 ((congrArg TSx.1 t_q1).trans rfl) rfl dX4_append_44 (fun vhv17 hv17 hEhv17 => ?_)
    obtain rfl := FE_fun hEhv17 GC
    refine lv_iload (pc := 47) hx hb dX4_append_47 (lv_at hl 4 rfl) ?_
    refine h_stK (pc := 49) (kd := 1) (n := 40) (a := itop) (k := n9) (x := x7) X hI z_cq (Or.inl ⟨rfl, rfl⟩) ((congrArg TSx.1 t_cq).trans rfl) AC (bndK (Or.inr (Or.inl rfl)) hI.1 t_cq (by decide) rfl AC) (by omega) (by decide) (avi_top _) (by rw [t_cq]; decide) (fun _ _ _ _ => INVx) dX4_append_49 (fun H locs hI AC hne hUn => ?_)
    rw [t_cq] at hUn
    have GC := hUn.fld t_q1 (by decide) rfl (by decide) GC
    have GK := hUn.fld t_q1 (by decide) rfl (by decide) GK
    have GD9 := hUn.fld t_q1 (by decide) rfl (by decide) GD9
    have AK := AK.kept (hUn.arr t_kq (by decide) rfl (by decide))
    have OT : ∀ q9, Γ q9 = 4 → q9 ≠ q1 → IV2 g Γ q9 H := fun q9 h1 h2 => by
      have h3 := OT q9 h1 h2
      have d1 := h3.1
      have d2 := h3.2.1
      refine IV2_ne h3 hne (fun e => ?_) (fun e => ?_) (fun e => ?_)
      · rw [e, t_cq] at h1; exact absurd h1 (by decide)
      · rw [e, t_cq] at d1; exact absurd d1 (by decide)
      · rw [← ecq] at e; omega
    refine lv_aload_n (pc := 50) hx hb dX4_append_50 rfl (lv_at hl 0 rfl) ?_
    refine h_get (pc := 51) X hI.1 (hFX4 37 _ rfl) z_q1 ((congrArg TSx.1 t_q1).trans rfl) rfl dX4_append_51 (fun vhv18 hv18 hEhv18 => ?_)
    obtain rfl := FE_fun hEhv18 GC
    refine lv_istore (lv' := [(5, .int (nI n9)), (0, .ref q1), (1, .int (nI k2)), (2, .int 3), (3, .int (nI k5)), (4, .int x7)]) (pc := 54) hx hb dX4_append_54 hl (by decide) rfl (fun ls hl => ?_)
    have loopA : ∀ (n : Nat) (i : Nat), (i < n) → (i ≤ n9) → ∀ (H : Heap) (locs : List Loc) (ls : Array Slot), HI g TSx Γ pX4_append_h0.2.2.2.2.1 s H locs → (FE g q1 4 1 H (.int (nI n9))) → (FE g q1 4 3 H (.ref kq)) → (FE g q1 4 5 H (.ref cq)) → (AT g 1 40 kq (upd fk n9 (3 : Int32)) H) → (AT g 1 40 cq (upd fc n9 x7) H) → (∀ q9, Γ q9 = 4 → q9 ≠ q1 → IV2 g Γ q9 H) → lv_has ls 6 [(0, .ref q1), (1, .int (nI k2)), (5, .int (nI i))] → W p l e (RM 1 0 0) s m [Value.ref q1, Value.int (nI k2), Value.int 3, Value.int (nI k5), Value.int x7].toArray below meth c H locs 0 0 Q (F0 m 56 ls []) := by
      intro n
      induction n with
      | zero =>
        intro i h1 h2 H locs ls hI GC GK GD9 AK AC OT hl
        omega
      | succ n ihA =>
        intro i h1 h2 H locs ls hI GC GK GD9 AK AC OT hl
        refine lv_iload (pc := 56) hx hb dX4_append_56 (lv_at hl 2 rfl) ?_
        refine lv_if_le (tgt := 101) (pc := 58) hx hb dX4_append_58 rfl (fun c9 => ?_) (fun c9 => ?_)
        · refine lv_aload_n (pc := 101) hx hb dX4_append_101 rfl (lv_at hl 0 rfl) ?_
          refine h_get (pc := 102) X hI.1 (hFX4 24 _ rfl) z_q1 ((congrArg TSx.1 t_q1).trans rfl) rfl dX4_append_102 (fun vhv19 hv19 hEhv19 => ?_)
          obtain ⟨q20, rfl, t_q20, z_q20⟩ := avi_ref rfl hv19
          have t_q20 : Γ q20 = 35 := t_q20
          refine lv_iload (pc := 105) hx hb dX4_append_105 (lv_at hl 2 rfl) ?_
          refine lv_aload_n (pc := 107) hx hb dX4_append_107 rfl (lv_at hl 0 rfl) ?_
          refine h_get (pc := 108) X hI.1 (hFX4 37 _ rfl) z_q1 ((congrArg TSx.1 t_q1).trans rfl) rfl dX4_append_108 (fun vhv21 hv21 hEhv21 => ?_)
          obtain rfl := FE_fun hEhv21 GC
          refine h_sto (pc := 111) (b := vi 0 39) X hI z_q20 (Or.inl ⟨rfl, rfl⟩) ((congrArg TSx.1 t_q20).trans rfl) (avi_nI (lo := 0) (hi := 39) (k := i) (Nat.zero_le _) (by omega) (by decide)) (by decide) (by decide) (avi_nI (lo := 0) (hi := 39) (k := n9) (by omega) (by omega) (by decide)) (by decide) (by rw [t_q20]; decide) dX4_append_111 (fun H locs hI hUn => ?_)
          rw [t_q20] at hUn
          have GC := hUn.fld t_q1 (by decide) rfl (by decide) GC
          have GK := hUn.fld t_q1 (by decide) rfl (by decide) GK
          have GD9 := hUn.fld t_q1 (by decide) rfl (by decide) GD9
          have AK := AK.kept (hUn.arr t_kq (by decide) rfl (by decide))
          have AC := AC.kept (hUn.arr t_cq (by decide) rfl (by decide))
          have OT : ∀ q9, Γ q9 = 4 → q9 ≠ q1 → IV2 g Γ q9 H := fun q9 h1 h2 => IV2_un h1 (OT q9 h1 h2) (Un_0 hUn) (by decide)
          refine lv_aload_n (pc := 112) hx hb dX4_append_112 rfl (lv_at hl 0 rfl) ?_
          refine lv_dup (pc := 113) hx hb dX4_append_113 rfl ?_
          refine h_get (pc := 114) X hI.1 (hFX4 37 _ rfl) z_q1 ((congrArg TSx.1 t_q1).trans rfl) rfl dX4_append_114 (fun vhv22 hv22 hEhv22 => ?_)
          obtain rfl := FE_fun hEhv22 GC
          refine lv_iconst (v := 1) (pc := 117) hx hb dX4_append_117 (by decide) ?_
          refine lv_iadd (pc := 118) hx hb dX4_append_118 ?_
          refine lv_topi (fun v23 ev23 => ?_)
          obtain rfl : v23 = nI (n9 + 1) := ev23.trans (nI_1 _)
          refine h_put (pc := 119) (b := vi 0 40) X hI (hFX4 37 _ rfl) z_q1 ((congrArg TSx.1 t_q1).trans rfl) rfl rfl (avi_nI (lo := 0) (hi := 40) (k := n9 + 1) (by omega) (by omega) (by decide)) (by decide) (by decide) (by rw [t_q1]; decide) dX4_append_119 (fun H locs hI hUn GC => ?_)
          rw [t_q1] at hUn
          have GK := hUn.fld t_q1 (by decide) rfl (by decide) GK
          have GD9 := hUn.fld t_q1 (by decide) rfl (by decide) GD9
          have AK := AK.kept (hUn.arr t_kq (by decide) rfl (by decide))
          have AC := AC.kept (hUn.arr t_cq (by decide) rfl (by decide))
          have OT : ∀ q9, Γ q9 = 4 → q9 ≠ q1 → IV2 g Γ q9 H := fun q9 h1 h2 => IV2_un h1 (OT q9 h1 h2) (Un_0 hUn) (by decide)
          have hu0 := Un_0 hI.2.2.2.2
          have hI := HI_0 hI (INV0 (V1.keep hu0 (by decide)) (fun q9 hq9 => by
            by_cases e9 : q9 = q1
            · subst e9
              rw [ekq, ecq]
              refine ⟨t_kq, t_cq, GK, GD9, _, _, AK, AC, fun j hj => ?_⟩
              by_cases ej : j = n9
              · subst ej
                simp only [upd, if_true]
                exact Or.inl trivial
              · simp only [upd, ej, if_false]
                exact hkc j hj
            · exact OT q9 hq9 e9) (INV3_keep V3 hu0 (by decide)))
          refine lv_aload_n (pc := 122) hx hb dX4_append_122 rfl (lv_at hl 0 rfl) ?_
          refine h_get (pc := 123) X hI.1 (hFX4 37 _ rfl) z_q1 ((congrArg TS0.1 t_q1).trans rfl) rfl dX4_append_123 (fun vhv24 hv24 hEhv24 => ?_)
          obtain rfl := FE_fun hEhv24 GC
          refine lv_iconst (v := 1) (pc := 126) hx hb dX4_append_126 (by decide) ?_
          refine lv_isub (pc := 127) hx hb dX4_append_127 ?_
          refine lv_topi (fun v25 ev25 => ?_)
          obtain rfl : v25 = nI n9 := ev25.trans (nI_pred _)
          exact h_ret (pc := 128) X hI hQ hr (rk := 0) (Or.inl ⟨rfl, rfl⟩) ((avle_ok (a := vi 0 39) (by decide) (avi_nI (lo := 0) (hi := 39) (k := n9) (by omega) (by omega) (by decide)) : avi g Γ (vj (-1) 39) (.int (nI n9)))) (RO_of ((avle_ok (a := vi 0 39) (by decide) (avi_nI (lo := 0) (hi := 39) (k := n9) (by omega) (by omega) (by decide)) : avi g Γ (vj (-1) 39) (.int (nI n9)))) rfl) (Or.inl ⟨rfl, rfl, rfl⟩) dX4_append_128
        · have i9 : 0 < i := by
            rcases Nat.eq_zero_or_pos i with h | h
            · exact absurd (by rw [h]; decide) c9
            · exact h
          refine lv_aload_n (pc := 61) hx hb dX4_append_61 rfl (lv_at hl 0 rfl) ?_
          refine h_get (pc := 62) X hI.1 (hFX4 11 _ rfl) z_q1 ((congrArg TSx.1 t_q1).trans rfl) rfl dX4_append_62 (fun vhv26 hv26 hEhv26 => ?_)
          obtain ⟨q27, rfl, t_q27, z_q27⟩ := avi_ref rfl hv26
          have t_q27 : Γ q27 = 31 := t_q27
          refine lv_aload_n (pc := 65) hx hb dX4_append_65 rfl (lv_at hl 0 rfl) ?_
          refine h_get (pc := 66) X hI.1 (hFX4 24 _ rfl) z_q1 ((congrArg TSx.1 t_q1).trans rfl) rfl dX4_append_66 (fun vhv28 hv28 hEhv28 => ?_)
          obtain ⟨q29, rfl, t_q29, z_q29⟩ := avi_ref rfl hv28
          have t_q29 : Γ q29 = 35 := t_q29
          refine lv_iload (pc := 69) hx hb dX4_append_69 (lv_at hl 2 rfl) ?_
          refine lv_iconst (v := 1) (pc := 71) hx hb dX4_append_71 (by decide) ?_
          refine lv_isub (pc := 72) hx hb dX4_append_72 ?_
          refine lv_topi (fun v30 ev30 => ?_)
          obtain rfl : v30 = nI (i - 1) := ev30.trans (nI_sub1 i9)
          refine h_iald (pc := 73) X hI.1 z_q29 ((congrArg TSx.1 t_q29).trans rfl) (avi_nI (lo := 0) (hi := 39) (k := (i - 1)) (Nat.zero_le _) (by omega) (by decide)) (by decide) (by decide) dX4_append_73 (fun vhv31 hv31 hEhv31 => ?_)
          obtain ⟨x33, rfl, -⟩ := avi_int rfl hv31
          obtain ⟨k32, rfl, lo_k32, hi_k32⟩ := avi_nn (lo := 0) (hi := 39) hv31
          refine h_iald (pc := 74) X hI.1 z_q27 ((congrArg TSx.1 t_q27).trans rfl) (avi_nI (lo := 0) (hi := 39) (k := k32) (Nat.zero_le _) (by omega) (by decide)) (by decide) (by decide) dX4_append_74 (fun vhv34 hv34 hEhv34 => ?_)
          obtain ⟨x36, rfl, -⟩ := avi_int rfl hv34
          obtain ⟨k35, rfl, lo_k35, hi_k35⟩ := avi_nn (lo := 0) (hi := 24) hv34
          refine lv_iload_n (pc := 75) hx hb dX4_append_75 rfl (lv_at hl 1 rfl) ?_
          refine lv_icmp_le (tgt := 101) (pc := 76) hx hb dX4_append_76 rfl (fun c9 => ?_) (fun c9 => ?_)
          · refine lv_aload_n (pc := 101) hx hb dX4_append_101 rfl (lv_at hl 0 rfl) ?_
            refine h_get (pc := 102) X hI.1 (hFX4 24 _ rfl) z_q1 ((congrArg TSx.1 t_q1).trans rfl) rfl dX4_append_102 (fun vhv37 hv37 hEhv37 => ?_)
            obtain ⟨q38, rfl, t_q38, z_q38⟩ := avi_ref rfl hv37
            have t_q38 : Γ q38 = 35 := t_q38
            refine lv_iload (pc := 105) hx hb dX4_append_105 (lv_at hl 2 rfl) ?_
            refine lv_aload_n (pc := 107) hx hb dX4_append_107 rfl (lv_at hl 0 rfl) ?_
            refine h_get (pc := 108) X hI.1 (hFX4 37 _ rfl) z_q1 ((congrArg TSx.1 t_q1).trans rfl) rfl dX4_append_108 (fun vhv39 hv39 hEhv39 => ?_)
            obtain rfl := FE_fun hEhv39 GC
            refine h_sto (pc := 111) (b := vi 0 39) X hI z_q38 (Or.inl ⟨rfl, rfl⟩) ((congrArg TSx.1 t_q38).trans rfl) (avi_nI (lo := 0) (hi := 39) (k := i) (Nat.zero_le _) (by omega) (by decide)) (by decide) (by decide) (avi_nI (lo := 0) (hi := 39) (k := n9) (by omega) (by omega) (by decide)) (by decide) (by rw [t_q38]; decide) dX4_append_111 (fun H locs hI hUn => ?_)
            rw [t_q38] at hUn
            have GC := hUn.fld t_q1 (by decide) rfl (by decide) GC
            have GK := hUn.fld t_q1 (by decide) rfl (by decide) GK
            have GD9 := hUn.fld t_q1 (by decide) rfl (by decide) GD9
            have AK := AK.kept (hUn.arr t_kq (by decide) rfl (by decide))
            have AC := AC.kept (hUn.arr t_cq (by decide) rfl (by decide))
            have OT : ∀ q9, Γ q9 = 4 → q9 ≠ q1 → IV2 g Γ q9 H := fun q9 h1 h2 => IV2_un h1 (OT q9 h1 h2) (Un_0 hUn) (by decide)
            refine lv_aload_n (pc := 112) hx hb dX4_append_112 rfl (lv_at hl 0 rfl) ?_
            refine lv_dup (pc := 113) hx hb dX4_append_113 rfl ?_
            refine h_get (pc := 114) X hI.1 (hFX4 37 _ rfl) z_q1 ((congrArg TSx.1 t_q1).trans rfl) rfl dX4_append_114 (fun vhv40 hv40 hEhv40 => ?_)
            obtain rfl := FE_fun hEhv40 GC
            refine lv_iconst (v := 1) (pc := 117) hx hb dX4_append_117 (by decide) ?_
            refine lv_iadd (pc := 118) hx hb dX4_append_118 ?_
            refine lv_topi (fun v41 ev41 => ?_)
            obtain rfl : v41 = nI (n9 + 1) := ev41.trans (nI_1 _)
            refine h_put (pc := 119) (b := vi 0 40) X hI (hFX4 37 _ rfl) z_q1 ((congrArg TSx.1 t_q1).trans rfl) rfl rfl (avi_nI (lo := 0) (hi := 40) (k := n9 + 1) (by omega) (by omega) (by decide)) (by decide) (by decide) (by rw [t_q1]; decide) dX4_append_119 (fun H locs hI hUn GC => ?_)
            rw [t_q1] at hUn
            have GK := hUn.fld t_q1 (by decide) rfl (by decide) GK
            have GD9 := hUn.fld t_q1 (by decide) rfl (by decide) GD9
            have AK := AK.kept (hUn.arr t_kq (by decide) rfl (by decide))
            have AC := AC.kept (hUn.arr t_cq (by decide) rfl (by decide))
            have OT : ∀ q9, Γ q9 = 4 → q9 ≠ q1 → IV2 g Γ q9 H := fun q9 h1 h2 => IV2_un h1 (OT q9 h1 h2) (Un_0 hUn) (by decide)
            have hu0 := Un_0 hI.2.2.2.2
            have hI := HI_0 hI (INV0 (V1.keep hu0 (by decide)) (fun q9 hq9 => by
              by_cases e9 : q9 = q1
              · subst e9
                rw [ekq, ecq]
                refine ⟨t_kq, t_cq, GK, GD9, _, _, AK, AC, fun j hj => ?_⟩
                by_cases ej : j = n9
                · subst ej
                  simp only [upd, if_true]
                  exact Or.inl trivial
                · simp only [upd, ej, if_false]
                  exact hkc j hj
              · exact OT q9 hq9 e9) (INV3_keep V3 hu0 (by decide)))
            refine lv_aload_n (pc := 122) hx hb dX4_append_122 rfl (lv_at hl 0 rfl) ?_
            refine h_get (pc := 123) X hI.1 (hFX4 37 _ rfl) z_q1 ((congrArg TS0.1 t_q1).trans rfl) rfl dX4_append_123 (fun vhv42 hv42 hEhv42 => ?_)
            obtain rfl := FE_fun hEhv42 GC
            refine lv_iconst (v := 1) (pc := 126) hx hb dX4_append_126 (by decide) ?_
            refine lv_isub (pc := 127) hx hb dX4_append_127 ?_
            refine lv_topi (fun v43 ev43 => ?_)
            obtain rfl : v43 = nI n9 := ev43.trans (nI_pred _)
            exact h_ret (pc := 128) X hI hQ hr (rk := 0) (Or.inl ⟨rfl, rfl⟩) ((avle_ok (a := vi 0 39) (by decide) (avi_nI (lo := 0) (hi := 39) (k := n9) (by omega) (by omega) (by decide)) : avi g Γ (vj (-1) 39) (.int (nI n9)))) (RO_of ((avle_ok (a := vi 0 39) (by decide) (avi_nI (lo := 0) (hi := 39) (k := n9) (by omega) (by omega) (by decide)) : avi g Γ (vj (-1) 39) (.int (nI n9)))) rfl) (Or.inl ⟨rfl, rfl, rfl⟩) dX4_append_128
          · refine lv_aload_n (pc := 79) hx hb dX4_append_79 rfl (lv_at hl 0 rfl) ?_
            refine h_get (pc := 80) X hI.1 (hFX4 24 _ rfl) z_q1 ((congrArg TSx.1 t_q1).trans rfl) rfl dX4_append_80 (fun vhv44 hv44 hEhv44 => ?_)
            obtain ⟨q45, rfl, t_q45, z_q45⟩ := avi_ref rfl hv44
            have t_q45 : Γ q45 = 35 := t_q45
            refine lv_iload (pc := 83) hx hb dX4_append_83 (lv_at hl 2 rfl) ?_
            refine lv_aload_n (pc := 85) hx hb dX4_append_85 rfl (lv_at hl 0 rfl) ?_
            refine h_get (pc := 86) X hI.1 (hFX4 24 _ rfl) z_q1 ((congrArg TSx.1 t_q1).trans rfl) rfl dX4_append_86 (fun vhv46 hv46 hEhv46 => ?_)
            obtain ⟨q47, rfl, t_q47, z_q47⟩ := avi_ref rfl hv46
            have t_q47 : Γ q47 = 35 := t_q47
            refine lv_iload (pc := 89) hx hb dX4_append_89 (lv_at hl 2 rfl) ?_
            refine lv_iconst (v := 1) (pc := 91) hx hb dX4_append_91 (by decide) ?_
            refine lv_isub (pc := 92) hx hb dX4_append_92 ?_
            refine lv_topi (fun v48 ev48 => ?_)
            obtain rfl : v48 = nI (i - 1) := ev48.trans (nI_sub1 i9)
            refine h_iald (pc := 93) X hI.1 z_q47 ((congrArg TSx.1 t_q47).trans rfl) (avi_nI (lo := 0) (hi := 39) (k := (i - 1)) (Nat.zero_le _) (by omega) (by decide)) (by decide) (by decide) dX4_append_93 (fun vhv49 hv49 hEhv49 => ?_)
            obtain ⟨x51, rfl, -⟩ := avi_int rfl hv49
            obtain ⟨k50, rfl, lo_k50, hi_k50⟩ := avi_nn (lo := 0) (hi := 39) hv49
            refine h_sto (pc := 94) (b := vi 0 39) X hI z_q45 (Or.inl ⟨rfl, rfl⟩) ((congrArg TSx.1 t_q45).trans rfl) (avi_nI (lo := 0) (hi := 39) (k := i) (Nat.zero_le _) (by omega) (by decide)) (by decide) (by decide) (avi_nI (lo := 0) (hi := 39) (k := k50) (by omega) (by omega) (by decide)) (by decide) (by rw [t_q45]; decide) dX4_append_94 (fun H locs hI hUn => ?_)
            rw [t_q45] at hUn
            have GC := hUn.fld t_q1 (by decide) rfl (by decide) GC
            have GK := hUn.fld t_q1 (by decide) rfl (by decide) GK
            have GD9 := hUn.fld t_q1 (by decide) rfl (by decide) GD9
            have AK := AK.kept (hUn.arr t_kq (by decide) rfl (by decide))
            have AC := AC.kept (hUn.arr t_cq (by decide) rfl (by decide))
            have OT : ∀ q9, Γ q9 = 4 → q9 ≠ q1 → IV2 g Γ q9 H := fun q9 h1 h2 => IV2_un h1 (OT q9 h1 h2) (Un_0 hUn) (by decide)
            refine lv_iinc (v := nI (i - 1)) (lv' := [(5, .int (nI (i - 1))), (0, .ref q1), (1, .int (nI k2))]) (pc := 95) hx hb dX4_append_95 hl (k := 2) rfl (nI_dec i9) (by decide) rfl (fun ls hl => ?_)
            refine lv_goto (tgt := 56) (pc := 98) hx hb dX4_append_98 rfl ?_
            exact ihA (i - 1) (by omega) (by omega) _ _ _ hI GC GK GD9 AK AC OT (lv_sub hl [1, 2, 0] rfl)
    exact loopA 41 n9 (by omega) (Nat.le_refl _) _ _ _ hI GC GK GD9 AK AC OT (lv_sub hl [1, 2, 0] rfl)
  · refine lv_iconst (v := (-1)) (pc := 7) hx hb dX4_append_7 (by decide) ?_
    exact h_ret (pc := 8) X hI hQ hr (rk := 0) (Or.inl ⟨rfl, rfl⟩) ((⟨rfl, by decide, by decide⟩ : avi g Γ (vj (-1) 39) (.int (-1)))) (RO_of ((⟨rfl, by decide, by decide⟩ : avi g Γ (vj (-1) 39) (.int (-1)))) rfl) (Or.inl ⟨rfl, rfl, rfl⟩) dX4_append_8
set_option maxHeartbeats 4000000 in
set_option maxRecDepth 100000 in
theorem SX4_append_h1 (l : Launch) (g : GG) : SM l g TS0 yX4_append cX4_append 6 (some .int) pX4_append_h1 := by
  refine SM_hand (own := RX4) rfl (by decide) (by decide) ?_
  intro p e s m below meth c Γ As ls Q hU hV hQ X hr hI hPF hl
  have hx := X.1
  have hb := X.2.1
  obtain ⟨v1, v2, v3, v4, v5, rfl, w1, w2, w3, w4, w5⟩ := VR5 (show VR g Γ [_, _, _, _, _] As from hV)
  obtain ⟨q1, rfl, t_q1, z_q1⟩ := avi_ref rfl w1
  have t_q1 : Γ q1 = 4 := t_q1
  obtain ⟨x3, rfl, -⟩ := avi_int rfl w2
  obtain ⟨k2, rfl, lo_k2, hi_k2⟩ := avi_nn (lo := 1) (hi := 24) w2
  obtain ⟨x5, rfl, -⟩ := avi_int rfl w3
  obtain ⟨k4, rfl, lo_k4, hi_k4⟩ := avi_nn (lo := 0) (hi := 4) w3
  obtain ⟨x7, rfl, -⟩ := avi_int rfl w4
  obtain ⟨k6, rfl, lo_k6, hi_k6⟩ := avi_nn (lo := 0) (hi := 6) w4
  obtain ⟨x9, rfl, -⟩ := avi_int rfl w5
  obtain ⟨k8, rfl, lo_k8, hi_k8⟩ := avi_nn (lo := 0) (hi := 6) w5
  have hl : lv_has ls 6 [(0, .ref q1), (1, .int (nI k2)), (2, .int (nI k4)), (3, .int (nI k6)), (4, .int (nI k8))] := hl
  obtain ⟨vc, hvc, GC⟩ := h_fe (k := 1) (r := (RX4, TX4, 9)) hI.1 z_q1 ((congrArg TS0.1 t_q1).trans rfl) rfl rfl (by decide)
  obtain ⟨xc, rfl, -⟩ := avi_int rfl hvc
  obtain ⟨n9, rfl, lo_n9, hi_n9⟩ := avi_nn (lo := 0) (hi := 40) hvc
  have V0 := hI.1.2.1 rfl
  obtain ⟨V1, V2, V3⟩ := V0
  refine lv_aload_n (pc := 0) hx hb dX4_append_0 rfl (lv_at hl 0 rfl) ?_
  refine h_callX (pc := 1) (dd := 1) (As := []) (rs := []) X hI (RX4_hasRoom l g) (by decide) vX4_41 rfl ⟨Nat.le_refl _, Nat.le_refl _, Nat.le_refl _, Nat.le_refl _⟩ (by decide) hl.1 rfl rfl hU no_pf ⟨av_r t_q1 z_q1, trivial⟩ z_q1 ((congrArg TS0.1 t_q1).trans rfl) (md_sub (by decide)) (Nat.le_of_ble_eq_true rfl) dX4_append_1 (fun vr H locs hro hI hUn hPP => ?_)
  obtain ⟨wr, rfl, hwr, -⟩ := RO_some rfl hro
  have hPP := hPP wr rfl q1 (nI n9) rfl GC
  have GC := hUn.fld t_q1 (by decide) rfl (by decide) GC
  have V2 := INV2_keep V2 hUn (by decide)
  obtain ⟨xr, rfl, -⟩ := avi_int rfl hwr
  obtain ⟨kr, rfl, lo_kr, hi_kr⟩ := avi_nn (lo := 0) (hi := 1) hwr
  refine lv_if_ne (tgt := 9) (pc := 4) hx hb dX4_append_4 rfl (fun c9 => ?_) (fun c9 => ?_)
  · have k1 : kr = 1 := by
      rcases (show kr = 0 ∨ kr = 1 by omega) with h | h
      · exact absurd (by rw [h]; rfl) c9
      · exact h
    have room9 : n9 < 40 := by
      have := hPP (by rw [k1]; rfl)
      rw [nI_toInt (by omega)] at this
      omega
    obtain ⟨e32, e34, GK, GD9, fk, fc, AK, AC, hkc⟩ := V2 q1 t_q1
    have OT : ∀ q9, Γ q9 = 4 → q9 ≠ q1 → IV2 g Γ q9 H := fun q9 h _ => V2 q9 h
    generalize ekq : q1 + 2 = kq at e32 GK AK
    generalize ecq : q1 + 4 = cq at e34 GD9 AC
    have t_kq := e32
    have t_cq := e34
    have z_kq : Γ kq ≠ 0 := by rw [t_kq]; decide
    have z_cq : Γ cq ≠ 0 := by rw [t_cq]; decide
    have hI := HI_x hI
    refine lv_aload_n (pc := 9) hx hb dX4_append_9 rfl (lv_at hl 0 rfl) ?_
    refine h_get (pc := 10) X hI.1 (hFX4 11 _ rfl) z_q1 ((congrArg TSx.1 t_q1).trans rfl) rfl dX4_append_10 (fun vhv10 hv10 hEhv10 => ?_)
    obtain ⟨q11, rfl, t_q11, z_q11⟩ := avi_ref rfl hv10
    have t_q11 : Γ q11 = 31 := t_q11
    refine lv_aload_n (pc := 13) hx hb dX4_append_13 rfl (lv_at hl 0 rfl) ?_
    refine h_get (pc := 14) X hI.1 (hFX4 37 _ rfl) z_q1 ((congrArg TSx.1 t_q1).trans rfl) rfl dX4_append_14 (fun vhv12 hv12 hEhv12 => ?_)
    obtain rfl := FE_fun hEhv12 GC
    refine lv_iload_n (pc := 17) hx hb dX4_append_17 rfl (lv_at hl 1 rfl) ?_
    refine h_sto (pc := 18) (b := vi 0 24) X hI z_q11 (Or.inl ⟨rfl, rfl⟩) ((congrArg TSx.1 t_q11).trans rfl) (avi_nI (lo := 0) (hi := 39) (k := n9) (Nat.zero_le _) (by omega) (by decide)) (by decide) (by decide) (avi_nI (lo := 0) (hi := 24) (k := k2) (by omega) (by omega) (by decide)) (by decide) (by rw [t_q11]; decide) dX4_append_18 (fun H locs hI hUn => ?_)
    rw [t_q11] at hUn
    have GC := hUn.fld t_q1 (by decide) rfl (by decide) GC
    have GK := hUn.fld t_q1 (by decide) rfl (by decide) GK
    have GD9 := hUn.fld t_q1 (by decide) rfl (by decide) GD9
    have AK := AK.kept (hUn.arr t_kq (by decide) rfl (by decide))
    have AC := AC.kept (hUn.arr t_cq (by decide) rfl (by decide))
    have OT : ∀ q9, Γ q9 = 4 → q9 ≠ q1 → IV2 g Γ q9 H := fun q9 h1 h2 => IV2_un h1 (OT q9 h1 h2) (Un_0 hUn) (by decide)
    refine lv_aload_n (pc := 19) hx hb dX4_append_19 rfl (lv_at hl 0 rfl) ?_
    refine h_get (pc := 20) X hI.1 (hFX4 15 _ rfl) z_q1 ((congrArg TSx.1 t_q1).trans rfl) rfl dX4_append_20 (fun vhv13 hv13 hEhv13 => ?_)
    obtain rfl := FE_fun hEhv13 GK
    refine lv_aload_n (pc := 23) hx hb dX4_append_23 rfl (lv_at hl 0 rfl) ?_
    refine h_get (pc := 24) X hI.1 (hFX4 37 _ rfl) z_q1 ((congrArg TSx.1 t_q1).trans rfl) rfl dX4_append_24 (fun vhv14 hv14 hEhv14 => ?_)
    obtain rfl := FE_fun hEhv14 GC
    refine lv_iload_n (pc := 27) hx hb dX4_append_27 rfl (lv_at hl 2 rfl) ?_
    refine h_stK (pc := 28) (kd := 1) (n := 40) (a := vi 0 4) (k := n9) (x := (nI k4)) X hI z_kq (Or.inl ⟨rfl, rfl⟩) ((congrArg TSx.1 t_kq).trans rfl) AK (bndK (Or.inr (Or.inl rfl)) hI.1 t_kq (by decide) rfl AK) (by omega) (by decide) (avi_nI (lo := 0) (hi := 4) (k := k4) (by omega) (by omega) (by decide)) (by rw [t_kq]; decide) (fun _ _ _ _ => INVx) dX4_append_28 (fun H locs hI AK hne hUn => ?_)
    rw [t_kq] at hUn
    have GC := hUn.fld t_q1 (by decide) rfl (by decide) GC
    have GK := hUn.fld t_q1 (by decide) rfl (by decide) GK
    have GD9 := hUn.fld t_q1 (by decide) rfl (by decide) GD9
    have AC := AC.kept (hUn.arr t_cq (by decide) rfl (by decide))
    have OT : ∀ q9, Γ q9 = 4 → q9 ≠ q1 → IV2 g Γ q9 H := fun q9 h1 h2 => by
      have h3 := OT q9 h1 h2
      have d1 := h3.1
      have d2 := h3.2.1
      refine IV2_ne h3 hne (fun e => ?_) (fun e => ?_) (fun e => ?_)
      · rw [e, t_kq] at h1; exact absurd h1 (by decide)
      · rw [← ekq] at e; omega
      · rw [e, t_kq] at d2; exact absurd d2 (by decide)
    refine lv_aload_n (pc := 29) hx hb dX4_append_29 rfl (lv_at hl 0 rfl) ?_
    refine h_get (pc := 30) X hI.1 (hFX4 18 _ rfl) z_q1 ((congrArg TSx.1 t_q1).trans rfl) rfl dX4_append_30 (fun vhv15 hv15 hEhv15 => ?_)
    obtain ⟨q16, rfl, t_q16, z_q16⟩ := avi_ref rfl hv15
    have t_q16 : Γ q16 = 33 := t_q16
    refine lv_aload_n (pc := 33) hx hb dX4_append_33 rfl (lv_at hl 0 rfl) ?_
    refine h_get (pc := 34) X hI.1 (hFX4 37 _ rfl) z_q1 ((congrArg TSx.1 t_q1).trans rfl) rfl dX4_append_34 (fun vhv17 hv17 hEhv17 => ?_)
    obtain rfl := FE_fun hEhv17 GC
    refine lv_iload_n (pc := 37) hx hb dX4_append_37 rfl (lv_at hl 3 rfl) ?_
    refine h_sto (pc := 38) (b := vi 0 6) X hI z_q16 (Or.inl ⟨rfl, rfl⟩) ((congrArg TSx.1 t_q16).trans rfl) (avi_nI (lo := 0) (hi := 39) (k := n9) (Nat.zero_le _) (by omega) (by decide)) (by decide) (by decide) (avi_nI (lo := 0) (hi := 6) (k := k6) (by omega) (by omega) (by decide)) (by decide) (by rw [t_q16]; decide) dX4_append_38 (fun H locs hI hUn => ?_)
    rw [t_q16] at hUn
    have GC := hUn.fld t_q1 (by decide) rfl (by decide) GC
    have GK := hUn.fld t_q1 (by decide) rfl (by decide) GK
    have GD9 := hUn.fld t_q1 (by decide) rfl (by decide) GD9
    have AC := AC.kept (hUn.arr t_cq (by decide) rfl (by decide))
    have AK := AK.kept (hUn.arr t_kq (by decide) rfl (by decide))
    have OT : ∀ q9, Γ q9 = 4 → q9 ≠ q1 → IV2 g Γ q9 H := fun q9 h1 h2 => IV2_un h1 (OT q9 h1 h2) (Un_0 hUn) (by decide)
    refine lv_aload_n (pc := 39) hx hb dX4_append_39 rfl (lv_at hl 0 rfl) ?_
    refine h_get (pc := 40) X hI.1 (hFX4 21 _ rfl) z_q1 ((congrArg TSx.1 t_q1).trans rfl) rfl dX4_append_40 (fun vhv18 hv18 hEhv18 => ?_)
    obtain rfl := FE_fun hEhv18 GD9
    refine lv_aload_n (pc := 43) hx hb dX4_append_43 rfl (lv_at hl 0 rfl) ?_
    refine h_get (pc := 44) X hI.1 (hFX4 37 _ rfl) z_q1 ((congrArg TSx.1 t_q1).trans rfl) rfl dX4_append_44 (fun vhv19 hv19 hEhv19 => ?_)
    obtain rfl := FE_fun hEhv19 GC
    refine lv_iload (pc := 47) hx hb dX4_append_47 (lv_at hl 4 rfl) ?_
    refine h_stK (pc := 49) (kd := 1) (n := 40) (a := itop) (k := n9) (x := (nI k8)) X hI z_cq (Or.inl ⟨rfl, rfl⟩) ((congrArg TSx.1 t_cq).trans rfl) AC (bndK (Or.inr (Or.inl rfl)) hI.1 t_cq (by decide) rfl AC) (by omega) (by decide) (avi_top _) (by rw [t_cq]; decide) (fun _ _ _ _ => INVx) dX4_append_49 (fun H locs hI AC hne hUn => ?_)
    rw [t_cq] at hUn
    have GC := hUn.fld t_q1 (by decide) rfl (by decide) GC
    have GK := hUn.fld t_q1 (by decide) rfl (by decide) GK
    have GD9 := hUn.fld t_q1 (by decide) rfl (by decide) GD9
    have AK := AK.kept (hUn.arr t_kq (by decide) rfl (by decide))
    have OT : ∀ q9, Γ q9 = 4 → q9 ≠ q1 → IV2 g Γ q9 H := fun q9 h1 h2 => by
      have h3 := OT q9 h1 h2
      have d1 := h3.1
      have d2 := h3.2.1
      refine IV2_ne h3 hne (fun e => ?_) (fun e => ?_) (fun e => ?_)
      · rw [e, t_cq] at h1; exact absurd h1 (by decide)
      · rw [e, t_cq] at d1; exact absurd d1 (by decide)
      · rw [← ecq] at e; omega
    refine lv_aload_n (pc := 50) hx hb dX4_append_50 rfl (lv_at hl 0 rfl) ?_
    refine h_get (pc := 51) X hI.1 (hFX4 37 _ rfl) z_q1 ((congrArg TSx.1 t_q1).trans rfl) rfl dX4_append_51 (fun vhv20 hv20 hEhv20 => ?_)
    obtain rfl := FE_fun hEhv20 GC
    refine lv_istore (lv' := [(5, .int (nI n9)), (0, .ref q1), (1, .int (nI k2)), (2, .int (nI k4)), (3, .int (nI k6)), (4, .int (nI k8))]) (pc := 54) hx hb dX4_append_54 hl (by decide) rfl (fun ls hl => ?_)
    have loopA : ∀ (n : Nat) (i : Nat), (i < n) → (i ≤ n9) → ∀ (H : Heap) (locs : List Loc) (ls : Array Slot), HI g TSx Γ pX4_append_h1.2.2.2.2.1 s H locs → (FE g q1 4 1 H (.int (nI n9))) → (FE g q1 4 3 H (.ref kq)) → (FE g q1 4 5 H (.ref cq)) → (AT g 1 40 kq (upd fk n9 (nI k4)) H) → (AT g 1 40 cq (upd fc n9 (nI k8)) H) → (∀ q9, Γ q9 = 4 → q9 ≠ q1 → IV2 g Γ q9 H) → lv_has ls 6 [(0, .ref q1), (1, .int (nI k2)), (5, .int (nI i))] → W p l e (RM 1 0 0) s m [Value.ref q1, Value.int (nI k2), Value.int (nI k4), Value.int (nI k6), Value.int (nI k8)].toArray below meth c H locs 0 0 Q (F0 m 56 ls []) := by
      intro n
      induction n with
      | zero =>
        intro i h1 h2 H locs ls hI GC GK GD9 AK AC OT hl
        omega
      | succ n ihA =>
        intro i h1 h2 H locs ls hI GC GK GD9 AK AC OT hl
        refine lv_iload (pc := 56) hx hb dX4_append_56 (lv_at hl 2 rfl) ?_
        refine lv_if_le (tgt := 101) (pc := 58) hx hb dX4_append_58 rfl (fun c9 => ?_) (fun c9 => ?_)
        · refine lv_aload_n (pc := 101) hx hb dX4_append_101 rfl (lv_at hl 0 rfl) ?_
          refine h_get (pc := 102) X hI.1 (hFX4 24 _ rfl) z_q1 ((congrArg TSx.1 t_q1).trans rfl) rfl dX4_append_102 (fun vhv21 hv21 hEhv21 => ?_)
          obtain ⟨q22, rfl, t_q22, z_q22⟩ := avi_ref rfl hv21
          have t_q22 : Γ q22 = 35 := t_q22
          refine lv_iload (pc := 105) hx hb dX4_append_105 (lv_at hl 2 rfl) ?_
          refine lv_aload_n (pc := 107) hx hb dX4_append_107 rfl (lv_at hl 0 rfl) ?_
          refine h_get (pc := 108) X hI.1 (hFX4 37 _ rfl) z_q1 ((congrArg TSx.1 t_q1).trans rfl) rfl dX4_append_108 (fun vhv23 hv23 hEhv23 => ?_)
          obtain rfl := FE_fun hEhv23 GC
          refine h_sto (pc := 111) (b := vi 0 39) X hI z_q22 (Or.inl ⟨rfl, rfl⟩) ((congrArg TSx.1 t_q22).trans rfl) (avi_nI (lo := 0) (hi := 39) (k := i) (Nat.zero_le _) (by omega) (by decide)) (by decide) (by decide) (avi_nI (lo := 0) (hi := 39) (k := n9) (by omega) (by omega) (by decide)) (by decide) (by rw [t_q22]; decide) dX4_append_111 (fun H locs hI hUn => ?_)
          rw [t_q22] at hUn
          have GC := hUn.fld t_q1 (by decide) rfl (by decide) GC
          have GK := hUn.fld t_q1 (by decide) rfl (by decide) GK
          have GD9 := hUn.fld t_q1 (by decide) rfl (by decide) GD9
          have AK := AK.kept (hUn.arr t_kq (by decide) rfl (by decide))
          have AC := AC.kept (hUn.arr t_cq (by decide) rfl (by decide))
          have OT : ∀ q9, Γ q9 = 4 → q9 ≠ q1 → IV2 g Γ q9 H := fun q9 h1 h2 => IV2_un h1 (OT q9 h1 h2) (Un_0 hUn) (by decide)
          refine lv_aload_n (pc := 112) hx hb dX4_append_112 rfl (lv_at hl 0 rfl) ?_
          refine lv_dup (pc := 113) hx hb dX4_append_113 rfl ?_
          refine h_get (pc := 114) X hI.1 (hFX4 37 _ rfl) z_q1 ((congrArg TSx.1 t_q1).trans rfl) rfl dX4_append_114 (fun vhv24 hv24 hEhv24 => ?_)
          obtain rfl := FE_fun hEhv24 GC
          refine lv_iconst (v := 1) (pc := 117) hx hb dX4_append_117 (by decide) ?_
          refine lv_iadd (pc := 118) hx hb dX4_append_118 ?_
          refine lv_topi (fun v25 ev25 => ?_)
          obtain rfl : v25 = nI (n9 + 1) := ev25.trans (nI_1 _)
          refine h_put (pc := 119) (b := vi 0 40) X hI (hFX4 37 _ rfl) z_q1 ((congrArg TSx.1 t_q1).trans rfl) rfl rfl (avi_nI (lo := 0) (hi := 40) (k := n9 + 1) (by omega) (by omega) (by decide)) (by decide) (by decide) (by rw [t_q1]; decide) dX4_append_119 (fun H locs hI hUn GC => ?_)
          rw [t_q1] at hUn
          have GK := hUn.fld t_q1 (by decide) rfl (by decide) GK
          have GD9 := hUn.fld t_q1 (by decide) rfl (by decide) GD9
          have AK := AK.kept (hUn.arr t_kq (by decide) rfl (by decide))
          have AC := AC.kept (hUn.arr t_cq (by decide) rfl (by decide))
          have OT : ∀ q9, Γ q9 = 4 → q9 ≠ q1 → IV2 g Γ q9 H := fun q9 h1 h2 => IV2_un h1 (OT q9 h1 h2) (Un_0 hUn) (by decide)
          have hu0 := Un_0 hI.2.2.2.2
          have hI := HI_0 hI (INV0 (V1.keep hu0 (by decide)) (fun q9 hq9 => by
            by_cases e9 : q9 = q1
            · subst e9
              rw [ekq, ecq]
              refine ⟨t_kq, t_cq, GK, GD9, _, _, AK, AC, fun j hj => ?_⟩
              by_cases ej : j = n9
              · subst ej
                simp only [upd, if_true]
                exact Or.inr ⟨by rw [nI_toInt (by omega)]; omega, by rw [nI_toInt (by omega)]; omega⟩
              · simp only [upd, ej, if_false]
                exact hkc j hj
            · exact OT q9 hq9 e9) (INV3_keep V3 hu0 (by decide)))
          refine lv_aload_n (pc := 122) hx hb dX4_append_122 rfl (lv_at hl 0 rfl) ?_
          refine h_get (pc := 123) X hI.1 (hFX4 37 _ rfl) z_q1 ((congrArg TS0.1 t_q1).trans rfl) rfl dX4_append_123 (fun vhv26 hv26 hEhv26 => ?_)
          obtain rfl := FE_fun hEhv26 GC
          refine lv_iconst (v := 1) (pc := 126) hx hb dX4_append_126 (by decide) ?_
          refine lv_isub (pc := 127) hx hb dX4_append_127 ?_
          refine lv_topi (fun v27 ev27 => ?_)
          obtain rfl : v27 = nI n9 := ev27.trans (nI_pred _)
          exact h_ret (pc := 128) X hI hQ hr (rk := 0) (Or.inl ⟨rfl, rfl⟩) ((avle_ok (a := vi 0 39) (by decide) (avi_nI (lo := 0) (hi := 39) (k := n9) (by omega) (by omega) (by decide)) : avi g Γ (vj (-1) 39) (.int (nI n9)))) (RO_of ((avle_ok (a := vi 0 39) (by decide) (avi_nI (lo := 0) (hi := 39) (k := n9) (by omega) (by omega) (by decide)) : avi g Γ (vj (-1) 39) (.int (nI n9)))) rfl) (Or.inl ⟨rfl, rfl, rfl⟩) dX4_append_128
        · have i9 : 0 < i := by
            rcases Nat.eq_zero_or_pos i with h | h
            · exact absurd (by rw [h]; decide) c9
            · exact h
          refine lv_aload_n (pc := 61) hx hb dX4_append_61 rfl (lv_at hl 0 rfl) ?_
          refine h_get (pc := 62) X hI.1 (hFX4 11 _ rfl) z_q1 ((congrArg TSx.1 t_q1).trans rfl) rfl dX4_append_62 (fun vhv28 hv28 hEhv28 => ?_)
          obtain ⟨q29, rfl, t_q29, z_q29⟩ := avi_ref rfl hv28
          have t_q29 : Γ q29 = 31 := t_q29
          refine lv_aload_n (pc := 65) hx hb dX4_append_65 rfl (lv_at hl 0 rfl) ?_
          refine h_get (pc := 66) X hI.1 (hFX4 24 _ rfl) z_q1 ((congrArg TSx.1 t_q1).trans rfl) rfl dX4_append_66 (fun vhv30 hv30 hEhv30 => ?_)
          obtain ⟨q31, rfl, t_q31, z_q31⟩ := avi_ref rfl hv30
          have t_q31 : Γ q31 = 35 := t_q31
          refine lv_iload (pc := 69) hx hb dX4_append_69 (lv_at hl 2 rfl) ?_
          refine lv_iconst (v := 1) (pc := 71) hx hb dX4_append_71 (by decide) ?_
          refine lv_isub (pc := 72) hx hb dX4_append_72 ?_
          refine lv_topi (fun v32 ev32 => ?_)
          obtain rfl : v32 = nI (i - 1) := ev32.trans (nI_sub1 i9)
          refine h_iald (pc := 73) X hI.1 z_q31 ((congrArg TSx.1 t_q31).trans rfl) (avi_nI (lo := 0) (hi := 39) (k := (i - 1)) (Nat.zero_le _) (by omega) (by decide)) (by decide) (by decide) dX4_append_73 (fun vhv33 hv33 hEhv33 => ?_)
          obtain ⟨x35, rfl, -⟩ := avi_int rfl hv33
          obtain ⟨k34, rfl, lo_k34, hi_k34⟩ := avi_nn (lo := 0) (hi := 39) hv33
          refine h_iald (pc := 74) X hI.1 z_q29 ((congrArg TSx.1 t_q29).trans rfl) (avi_nI (lo := 0) (hi := 39) (k := k34) (Nat.zero_le _) (by omega) (by decide)) (by decide) (by decide) dX4_append_74 (fun vhv36 hv36 hEhv36 => ?_)
          obtain ⟨x38, rfl, -⟩ := avi_int rfl hv36
          obtain ⟨k37, rfl, lo_k37, hi_k37⟩ := avi_nn (lo := 0) (hi := 24) hv36
          refine lv_iload_n (pc := 75) hx hb dX4_append_75 rfl (lv_at hl 1 rfl) ?_
          refine lv_icmp_le (tgt := 101) (pc := 76) hx hb dX4_append_76 rfl (fun c9 => ?_) (fun c9 => ?_)
          · refine lv_aload_n (pc := 101) hx hb dX4_append_101 rfl (lv_at hl 0 rfl) ?_
            refine h_get (pc := 102) X hI.1 (hFX4 24 _ rfl) z_q1 ((congrArg TSx.1 t_q1).trans rfl) rfl dX4_append_102 (fun vhv39 hv39 hEhv39 => ?_)
            obtain ⟨q40, rfl, t_q40, z_q40⟩ := avi_ref rfl hv39
            have t_q40 : Γ q40 = 35 := t_q40
            refine lv_iload (pc := 105) hx hb dX4_append_105 (lv_at hl 2 rfl) ?_
            refine lv_aload_n (pc := 107) hx hb dX4_append_107 rfl (lv_at hl 0 rfl) ?_
            refine h_get (pc := 108) X hI.1 (hFX4 37 _ rfl) z_q1 ((congrArg TSx.1 t_q1).trans rfl) rfl dX4_append_108 (fun vhv41 hv41 hEhv41 => ?_)
            obtain rfl := FE_fun hEhv41 GC
            refine h_sto (pc := 111) (b := vi 0 39) X hI z_q40 (Or.inl ⟨rfl, rfl⟩) ((congrArg TSx.1 t_q40).trans rfl) (avi_nI (lo := 0) (hi := 39) (k := i) (Nat.zero_le _) (by omega) (by decide)) (by decide) (by decide) (avi_nI (lo := 0) (hi := 39) (k := n9) (by omega) (by omega) (by decide)) (by decide) (by rw [t_q40]; decide) dX4_append_111 (fun H locs hI hUn => ?_)
            rw [t_q40] at hUn
            have GC := hUn.fld t_q1 (by decide) rfl (by decide) GC
            have GK := hUn.fld t_q1 (by decide) rfl (by decide) GK
            have GD9 := hUn.fld t_q1 (by decide) rfl (by decide) GD9
            have AK := AK.kept (hUn.arr t_kq (by decide) rfl (by decide))
            have AC := AC.kept (hUn.arr t_cq (by decide) rfl (by decide))
            have OT : ∀ q9, Γ q9 = 4 → q9 ≠ q1 → IV2 g Γ q9 H := fun q9 h1 h2 => IV2_un h1 (OT q9 h1 h2) (Un_0 hUn) (by decide)
            refine lv_aload_n (pc := 112) hx hb dX4_append_112 rfl (lv_at hl 0 rfl) ?_
            refine lv_dup (pc := 113) hx hb dX4_append_113 rfl ?_
            refine h_get (pc := 114) X hI.1 (hFX4 37 _ rfl) z_q1 ((congrArg TSx.1 t_q1).trans rfl) rfl dX4_append_114 (fun vhv42 hv42 hEhv42 => ?_)
            obtain rfl := FE_fun hEhv42 GC
            refine lv_iconst (v := 1) (pc := 117) hx hb dX4_append_117 (by decide) ?_
            refine lv_iadd (pc := 118) hx hb dX4_append_118 ?_
            refine lv_topi (fun v43 ev43 => ?_)
            obtain rfl : v43 = nI (n9 + 1) := ev43.trans (nI_1 _)
            refine h_put (pc := 119) (b := vi 0 40) X hI (hFX4 37 _ rfl) z_q1 ((congrArg TSx.1 t_q1).trans rfl) rfl rfl (avi_nI (lo := 0) (hi := 40) (k := n9 + 1) (by omega) (by omega) (by decide)) (by decide) (by decide) (by rw [t_q1]; decide) dX4_append_119 (fun H locs hI hUn GC => ?_)
            rw [t_q1] at hUn
            have GK := hUn.fld t_q1 (by decide) rfl (by decide) GK
            have GD9 := hUn.fld t_q1 (by decide) rfl (by decide) GD9
            have AK := AK.kept (hUn.arr t_kq (by decide) rfl (by decide))
            have AC := AC.kept (hUn.arr t_cq (by decide) rfl (by decide))
            have OT : ∀ q9, Γ q9 = 4 → q9 ≠ q1 → IV2 g Γ q9 H := fun q9 h1 h2 => IV2_un h1 (OT q9 h1 h2) (Un_0 hUn) (by decide)
            have hu0 := Un_0 hI.2.2.2.2
            have hI := HI_0 hI (INV0 (V1.keep hu0 (by decide)) (fun q9 hq9 => by
              by_cases e9 : q9 = q1
              · subst e9
                rw [ekq, ecq]
                refine ⟨t_kq, t_cq, GK, GD9, _, _, AK, AC, fun j hj => ?_⟩
                by_cases ej : j = n9
                · subst ej
                  simp only [upd, if_true]
                  exact Or.inr ⟨by rw [nI_toInt (by omega)]; omega, by rw [nI_toInt (by omega)]; omega⟩
                · simp only [upd, ej, if_false]
                  exact hkc j hj
              · exact OT q9 hq9 e9) (INV3_keep V3 hu0 (by decide)))
            refine lv_aload_n (pc := 122) hx hb dX4_append_122 rfl (lv_at hl 0 rfl) ?_
            refine h_get (pc := 123) X hI.1 (hFX4 37 _ rfl) z_q1 ((congrArg TS0.1 t_q1).trans rfl) rfl dX4_append_123 (fun vhv44 hv44 hEhv44 => ?_)
            obtain rfl := FE_fun hEhv44 GC
            refine lv_iconst (v := 1) (pc := 126) hx hb dX4_append_126 (by decide) ?_
            refine lv_isub (pc := 127) hx hb dX4_append_127 ?_
            refine lv_topi (fun v45 ev45 => ?_)
            obtain rfl : v45 = nI n9 := ev45.trans (nI_pred _)
            exact h_ret (pc := 128) X hI hQ hr (rk := 0) (Or.inl ⟨rfl, rfl⟩) ((avle_ok (a := vi 0 39) (by decide) (avi_nI (lo := 0) (hi := 39) (k := n9) (by omega) (by omega) (by decide)) : avi g Γ (vj (-1) 39) (.int (nI n9)))) (RO_of ((avle_ok (a := vi 0 39) (by decide) (avi_nI (lo := 0) (hi := 39) (k := n9) (by omega) (by omega) (by decide)) : avi g Γ (vj (-1) 39) (.int (nI n9)))) rfl) (Or.inl ⟨rfl, rfl, rfl⟩) dX4_append_128
          · refine lv_aload_n (pc := 79) hx hb dX4_append_79 rfl (lv_at hl 0 rfl) ?_
            refine h_get (pc := 80) X hI.1 (hFX4 24 _ rfl) z_q1 ((congrArg TSx.1 t_q1).trans rfl) rfl dX4_append_80 (fun vhv46 hv46 hEhv46 => ?_)
            obtain ⟨q47, rfl, t_q47, z_q47⟩ := avi_ref rfl hv46
            have t_q47 : Γ q47 = 35 := t_q47
            refine lv_iload (pc := 83) hx hb dX4_append_83 (lv_at hl 2 rfl) ?_
            refine lv_aload_n (pc := 85) hx hb dX4_append_85 rfl (lv_at hl 0 rfl) ?_
            refine h_get (pc := 86) X hI.1 (hFX4 24 _ rfl) z_q1 ((congrArg TSx.1 t_q1).trans rfl) rfl dX4_append_86 (fun vhv48 hv48 hEhv48 => ?_)
            obtain ⟨q49, rfl, t_q49, z_q49⟩ := avi_ref rfl hv48
            have t_q49 : Γ q49 = 35 := t_q49
            refine lv_iload (pc := 89) hx hb dX4_append_89 (lv_at hl 2 rfl) ?_
            refine lv_iconst (v := 1) (pc := 91) hx hb dX4_append_91 (by decide) ?_
            refine lv_isub (pc := 92) hx hb dX4_append_92 ?_
            refine lv_topi (fun v50 ev50 => ?_)
            obtain rfl : v50 = nI (i - 1) := ev50.trans (nI_sub1 i9)
            refine h_iald (pc := 93) X hI.1 z_q49 ((congrArg TSx.1 t_q49).trans rfl) (avi_nI (lo := 0) (hi := 39) (k := (i - 1)) (Nat.zero_le _) (by omega) (by decide)) (by decide) (by decide) dX4_append_93 (fun vhv51 hv51 hEhv51 => ?_)
            obtain ⟨x53, rfl, -⟩ := avi_int rfl hv51
            obtain ⟨k52, rfl, lo_k52, hi_k52⟩ := avi_nn (lo := 0) (hi := 39) hv51
            refine h_sto (pc := 94) (b := vi 0 39) X hI z_q47 (Or.inl ⟨rfl, rfl⟩) ((congrArg TSx.1 t_q47).trans rfl) (avi_nI (lo := 0) (hi := 39) (k := i) (Nat.zero_le _) (by omega) (by decide)) (by decide) (by decide) (avi_nI (lo := 0) (hi := 39) (k := k52) (by omega) (by omega) (by decide)) (by decide) (by rw [t_q47]; decide) dX4_append_94 (fun H locs hI hUn => ?_)
            rw [t_q47] at hUn
            have GC := hUn.fld t_q1 (by decide) rfl (by decide) GC
            have GK := hUn.fld t_q1 (by decide) rfl (by decide) GK
            have GD9 := hUn.fld t_q1 (by decide) rfl (by decide) GD9
            have AK := AK.kept (hUn.arr t_kq (by decide) rfl (by decide))
            have AC := AC.kept (hUn.arr t_cq (by decide) rfl (by decide))
            have OT : ∀ q9, Γ q9 = 4 → q9 ≠ q1 → IV2 g Γ q9 H := fun q9 h1 h2 => IV2_un h1 (OT q9 h1 h2) (Un_0 hUn) (by decide)
            refine lv_iinc (v := nI (i - 1)) (lv' := [(5, .int (nI (i - 1))), (0, .ref q1), (1, .int (nI k2))]) (pc := 95) hx hb dX4_append_95 hl (k := 2) rfl (nI_dec i9) (by decide) rfl (fun ls hl => ?_)
            refine lv_goto (tgt := 56) (pc := 98) hx hb dX4_append_98 rfl ?_
            exact ihA (i - 1) (by omega) (by omega) _ _ _ hI GC GK GD9 AK AC OT (lv_sub hl [1, 2, 0] rfl)
    exact loopA 41 n9 (by omega) (Nat.le_refl _) _ _ _ hI GC GK GD9 AK AC OT (lv_sub hl [1, 2, 0] rfl)
  · refine lv_iconst (v := (-1)) (pc := 7) hx hb dX4_append_7 (by decide) ?_
    exact h_ret (pc := 8) X hI hQ hr (rk := 0) (Or.inl ⟨rfl, rfl⟩) ((⟨rfl, by decide, by decide⟩ : avi g Γ (vj (-1) 39) (.int (-1)))) (RO_of ((⟨rfl, by decide, by decide⟩ : avi g Γ (vj (-1) 39) (.int (-1)))) rfl) (Or.inl ⟨rfl, rfl, rfl⟩) dX4_append_8
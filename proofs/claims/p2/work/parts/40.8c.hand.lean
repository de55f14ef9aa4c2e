/-! cards, hour by hour -/
theorem m_1006 : (Cond.code yX0_callOn prog_2_method_3_code 5 (Option.none : Option Jvm.ClassFile.FieldType)) ∈ BW := bw (tb5 46 (by decide +kernel)) (by decide +kernel)
theorem dX0_callOn_0 : decode cX0_callOn 0 = .ok (.iconst 0, 1) := by decide +kernel
theorem dX0_callOn_1 : decode cX0_callOn 1 = .ok (.istore_n 2, 1) := by decide +kernel
theorem dX0_callOn_2 : decode cX0_callOn 2 = .ok (.iconst 0, 1) := by decide +kernel
theorem dX0_callOn_3 : decode cX0_callOn 3 = .ok (.istore_n 3, 1) := by decide +kernel
theorem dX0_callOn_4 : decode cX0_callOn 4 = .ok (.iload_n 3, 1) := by decide +kernel
theorem dX0_callOn_5 : decode cX0_callOn 5 = .ok (.aload_n 0, 1) := by decide +kernel
theorem dX0_callOn_6 : decode cX0_callOn 6 = .ok (.getfield 24, 3) := by decide +kernel
theorem dX0_callOn_9 : decode cX0_callOn 9 = .ok (.getfield 51, 3) := by decide +kernel
theorem dX0_callOn_12 : decode cX0_callOn 12 = .ok (.if_icmp .ge 89, 3) := by decide +kernel
theorem dX0_callOn_101 : decode cX0_callOn 101 = .ok (.iload_n 2, 1) := by decide +kernel
theorem dX0_callOn_102 : decode cX0_callOn 102 = .ok (.aload_n 0, 1) := by decide +kernel
theorem dX0_callOn_103 : decode cX0_callOn 103 = .ok (.getfield 28, 3) := by decide +kernel
theorem dX0_callOn_106 : decode cX0_callOn 106 = .ok (.iconst (-1), 1) := by decide +kernel
theorem dX0_callOn_107 : decode cX0_callOn 107 = .ok (.ixor, 1) := by decide +kernel
theorem dX0_callOn_108 : decode cX0_callOn 108 = .ok (.iand, 1) := by decide +kernel
theorem dX0_callOn_109 : decode cX0_callOn 109 = .ok (.istore_n 3, 1) := by decide +kernel
theorem dX0_callOn_110 : decode cX0_callOn 110 = .ok (.aload_n 0, 1) := by decide +kernel
theorem dX0_callOn_111 : decode cX0_callOn 111 = .ok (.dup, 1) := by decide +kernel
theorem dX0_callOn_112 : decode cX0_callOn 112 = .ok (.getfield 28, 3) := by decide +kernel
theorem dX0_callOn_115 : decode cX0_callOn 115 = .ok (.iload_n 3, 1) := by decide +kernel
theorem dX0_callOn_116 : decode cX0_callOn 116 = .ok (.aload_n 0, 1) := by decide +kernel
theorem dX0_callOn_117 : decode cX0_callOn 117 = .ok (.getfield 24, 3) := by decide +kernel
theorem dX0_callOn_120 : decode cX0_callOn 120 = .ok (.getfield 65, 3) := by decide +kernel
theorem dX0_callOn_123 : decode cX0_callOn 123 = .ok (.iconst (-1), 1) := by decide +kernel
theorem dX0_callOn_124 : decode cX0_callOn 124 = .ok (.ixor, 1) := by decide +kernel
theorem dX0_callOn_125 : decode cX0_callOn 125 = .ok (.aload_n 0, 1) := by decide +kernel
theorem dX0_callOn_126 : decode cX0_callOn 126 = .ok (.getfield 32, 3) := by decide +kernel
theorem dX0_callOn_129 : decode cX0_callOn 129 = .ok (.ior, 1) := by decide +kernel
theorem dX0_callOn_130 : decode cX0_callOn 130 = .ok (.iand, 1) := by decide +kernel
theorem dX0_callOn_131 : decode cX0_callOn 131 = .ok (.ior, 1) := by decide +kernel
theorem dX0_callOn_132 : decode cX0_callOn 132 = .ok (.putfield 28, 3) := by decide +kernel
theorem dX0_callOn_135 : decode cX0_callOn 135 = .ok (.aload_n 0, 1) := by decide +kernel
theorem dX0_callOn_136 : decode cX0_callOn 136 = .ok (.dup, 1) := by decide +kernel
theorem dX0_callOn_137 : decode cX0_callOn 137 = .ok (.getfield 32, 3) := by decide +kernel
theorem dX0_callOn_140 : decode cX0_callOn 140 = .ok (.iload_n 3, 1) := by decide +kernel
theorem dX0_callOn_141 : decode cX0_callOn 141 = .ok (.ior, 1) := by decide +kernel
theorem dX0_callOn_142 : decode cX0_callOn 142 = .ok (.putfield 32, 3) := by decide +kernel
theorem dX0_callOn_145 : decode cX0_callOn 145 = .ok (.return_, 1) := by decide +kernel
theorem dX0_callOn_15 : decode cX0_callOn 15 = .ok (.aload_n 0, 1) := by decide +kernel
theorem dX0_callOn_16 : decode cX0_callOn 16 = .ok (.getfield 28, 3) := by decide +kernel
theorem dX0_callOn_19 : decode cX0_callOn 19 = .ok (.iload_n 3, 1) := by decide +kernel
theorem dX0_callOn_20 : decode cX0_callOn 20 = .ok (.invokestatic 54, 3) := by decide +kernel
theorem dX0_callOn_23 : decode cX0_callOn 23 = .ok (.ifCond .eq 20, 3) := by decide +kernel
theorem dX0_callOn_43 : decode cX0_callOn 43 = .ok (.iconst (-1), 1) := by decide +kernel
theorem dX0_callOn_44 : decode cX0_callOn 44 = .ok (.istore 4, 2) := by decide +kernel
theorem dX0_callOn_46 : decode cX0_callOn 46 = .ok (.iload 4, 2) := by decide +kernel
theorem dX0_callOn_48 : decode cX0_callOn 48 = .ok (.iconst (-1), 1) := by decide +kernel
theorem dX0_callOn_49 : decode cX0_callOn 49 = .ok (.if_icmp .eq 46, 3) := by decide +kernel
theorem dX0_callOn_95 : decode cX0_callOn 95 = .ok (.iinc 3 1, 3) := by decide +kernel
theorem dX0_callOn_98 : decode cX0_callOn 98 = .ok (.goto (-94), 3) := by decide +kernel
theorem dX0_callOn_26 : decode cX0_callOn 26 = .ok (.aload_n 0, 1) := by decide +kernel
theorem dX0_callOn_27 : decode cX0_callOn 27 = .ok (.getfield 24, 3) := by decide +kernel
theorem dX0_callOn_30 : decode cX0_callOn 30 = .ok (.iload_n 3, 1) := by decide +kernel
theorem dX0_callOn_31 : decode cX0_callOn 31 = .ok (.aload_n 0, 1) := by decide +kernel
theorem dX0_callOn_32 : decode cX0_callOn 32 = .ok (.getfield 9, 3) := by decide +kernel
theorem dX0_callOn_35 : decode cX0_callOn 35 = .ok (.iload_n 3, 1) := by decide +kernel
theorem dX0_callOn_36 : decode cX0_callOn 36 = .ok (.iaload, 1) := by decide +kernel
theorem m_1008 : (Cond.methodLink "NoonValley$Cards" 58 yX10_nextOnCard) ∈ BW := bw (tb5 48 (by decide +kernel)) (by decide +kernel)
theorem m_1011 : (Cond.code yX10_nextOnCard prog_12_method_26_code 3 (Option.some FieldType.int)) ∈ BW := bw (tb5 51 (by decide +kernel)) (by decide +kernel)
theorem m_1009 : (Cond.instanceMethod yX10_nextOnCard) ∈ BW := bw (tb5 49 (by decide +kernel)) (by decide +kernel)
theorem m_1010 : (Cond.selects "NoonValley$Valley" yX10_nextOnCard yX10_nextOnCard) ∈ BW := bw (tb5 50 (by decide +kernel)) (by decide +kernel)
theorem vX0_58 : LV RX0 58 RX10 yX10_nextOnCard cX10_nextOnCard 3 (some .int) 2 := ⟨m_1008, m_1009, m_1010, m_11, m_1011, rfl, by decide, by decide, by decide +kernel⟩
theorem dX0_callOn_37 : decode cX0_callOn 37 = .ok (.invokevirtual 58, 3) := by decide +kernel
theorem dX0_callOn_40 : decode cX0_callOn 40 = .ok (.goto 4, 3) := by decide +kernel
theorem dX0_callOn_52 : decode cX0_callOn 52 = .ok (.aload_n 0, 1) := by decide +kernel
theorem dX0_callOn_53 : decode cX0_callOn 53 = .ok (.getfield 24, 3) := by decide +kernel
theorem dX0_callOn_56 : decode cX0_callOn 56 = .ok (.iload_n 3, 1) := by decide +kernel
theorem dX0_callOn_57 : decode cX0_callOn 57 = .ok (.iload_n 1, 1) := by decide +kernel
theorem m_1012 : (Cond.methodLink "NoonValley$Cards" 62 yX10_callable) ∈ BW := bw (tb5 52 (by decide +kernel)) (by decide +kernel)
theorem vX0_62 : LV RX0 62 RX10 yX10_callable cX10_callable 3 (some .int) 2 := ⟨m_1012, m_553, m_554, m_11, m_555, rfl, by decide, by decide, by decide +kernel⟩
theorem dX0_callOn_58 : decode cX0_callOn 58 = .ok (.invokevirtual 62, 3) := by decide +kernel
theorem dX0_callOn_61 : decode cX0_callOn 61 = .ok (.iload 4, 2) := by decide +kernel
theorem dX0_callOn_63 : decode cX0_callOn 63 = .ok (.invokestatic 54, 3) := by decide +kernel
theorem dX0_callOn_66 : decode cX0_callOn 66 = .ok (.ifCond .eq 29, 3) := by decide +kernel
theorem dX0_callOn_69 : decode cX0_callOn 69 = .ok (.iload_n 2, 1) := by decide +kernel
theorem dX0_callOn_70 : decode cX0_callOn 70 = .ok (.iload 4, 2) := by decide +kernel
theorem dX0_callOn_72 : decode cX0_callOn 72 = .ok (.invokestatic 54, 3) := by decide +kernel
theorem dX0_callOn_75 : decode cX0_callOn 75 = .ok (.ifCond .ne 20, 3) := by decide +kernel
theorem dX0_callOn_78 : decode cX0_callOn 78 = .ok (.iload_n 2, 1) := by decide +kernel
theorem dX0_callOn_79 : decode cX0_callOn 79 = .ok (.iconst 1, 1) := by decide +kernel
theorem dX0_callOn_80 : decode cX0_callOn 80 = .ok (.iload 4, 2) := by decide +kernel
theorem dX0_callOn_82 : decode cX0_callOn 82 = .ok (.ishl, 1) := by decide +kernel
theorem dX0_callOn_83 : decode cX0_callOn 83 = .ok (.ior, 1) := by decide +kernel
theorem dX0_callOn_84 : decode cX0_callOn 84 = .ok (.istore_n 2, 1) := by decide +kernel
theorem dX0_callOn_85 : decode cX0_callOn 85 = .ok (.aload_n 0, 1) := by decide +kernel
theorem dX0_callOn_86 : decode cX0_callOn 86 = .ok (.getfield 9, 3) := by decide +kernel
theorem dX0_callOn_89 : decode cX0_callOn 89 = .ok (.iload_n 3, 1) := by decide +kernel
theorem dX0_callOn_90 : decode cX0_callOn 90 = .ok (.dup2, 1) := by decide +kernel
theorem dX0_callOn_91 : decode cX0_callOn 91 = .ok (.iaload, 1) := by decide +kernel
theorem dX0_callOn_92 : decode cX0_callOn 92 = .ok (.iconst 1, 1) := by decide +kernel
theorem dX0_callOn_93 : decode cX0_callOn 93 = .ok (.iadd, 1) := by decide +kernel
theorem dX0_callOn_94 : decode cX0_callOn 94 = .ok (.iastore, 1) := by decide +kernel
noncomputable def pX0_callOn_h0 : SPEC := (3, [vr 11, vi 1 24], vk 7, [], [(11, 1), (11, 2), (51, 0)], [(46056, vr 3)])
set_option maxHeartbeats 4000000 in
set_option maxRecDepth 100000 in
theorem SX0_callOn_h0 (l : Launch) (g : GG) : SM l g TS0 yX0_callOn cX0_callOn 5 none pX0_callOn_h0 := by
  refine SM_hand (own := RX0) rfl (by decide) (by decide) ?_
  intro p e s m below meth c Γ As ls Q hU hV hQ X hr hI hPF hl
  have hx := X.1
  have hb := X.2.1
  obtain ⟨v1, v2, rfl, w1, w2⟩ := VR2 (show VR g Γ [_, _] As from hV)
  obtain ⟨q1, rfl, t_q1, z_q1⟩ := avi_ref rfl w1
  have t_q1 : Γ q1 = 11 := t_q1
  obtain ⟨x3, rfl, -⟩ := avi_int rfl w2
  obtain ⟨k2, rfl, lo_k2, hi_k2⟩ := avi_nn (lo := 1) (hi := 24) w2
  have hl : lv_has ls 5 [(0, .ref q1), (1, .int (nI k2))] := hl
  obtain ⟨vv, hvv, FV⟩ := pf_fe (t := 11) (k := 0) (a := vr 3) hU hPF (List.mem_singleton.mpr rfl) t_q1 (by decide) rfl (by decide) (by decide)
  obtain ⟨vq, rfl, t_vq, z_vq⟩ := avi_ref rfl hvv
  have t_vq : Γ vq = 3 := t_vq
  refine lv_iconst (v := 0) (pc := 0) hx hb dX0_callOn_0 (by decide) ?_
  refine lv_istore_n (lv' := [(2, .int 0), (0, .ref q1), (1, .int (nI k2))]) (pc := 1) hx hb dX0_callOn_1 rfl hl (by decide) rfl (fun ls hl => ?_)
  refine lv_iconst (v := 0) (pc := 2) hx hb dX0_callOn_2 (by decide) ?_
  refine lv_istore_n (lv' := [(3, .int 0), (2, .int 0), (0, .ref q1), (1, .int (nI k2))]) (pc := 3) hx hb dX0_callOn_3 rfl hl (by decide) rfl (fun ls hl => ?_)
  have loopA : ∀ (n : Nat) (tl : Int32) (i : Nat), (i + n = 8) → (i ≤ 7) → ∀ (H : Heap) (locs : List Loc) (ls : Array Slot), HI g TS0 Γ pX0_callOn_h0.2.2.2.2.1 s H locs → (FE g q1 0 0 H (.ref vq)) → lv_has ls 5 [(0, .ref q1), (1, .int (nI k2)), (2, .int tl), (3, .int (nI i))] → W p l e (RM 3 0 0) s m [Value.ref q1, Value.int (nI k2)].toArray below meth c H locs 0 0 Q (F0 m 4 ls []) := by
    intro n
    induction n with
    | zero =>
      intro tl i h1 h2 H locs ls hI FV hl
      omega
    | succ n ihA =>
      intro tl i h1 h2 H locs ls hI FV hl
      refine lv_iload_n (pc := 4) hx hb dX0_callOn_4 rfl (lv_at hl 3 rfl) ?_
      refine lv_aload_n (pc := 5) hx hb dX0_callOn_5 rfl (lv_at hl 0 rfl) ?_
      refine h_get (pc := 6) X hI.1 (hFX0 24 _ rfl) z_q1 ((congrArg TS0.1 t_q1).trans rfl) rfl dX0_callOn_6 (fun vhv4 hv4 hEhv4 => ?_)
      obtain rfl := FE_fun hEhv4 FV
      refine h_get (pc := 9) X hI.1 (hFX0 51 _ rfl) z_vq ((congrArg TS0.1 t_vq).trans rfl) rfl dX0_callOn_9 (fun vhv5 hv5 hEhv5 => ?_)
      obtain ⟨x7, rfl, -⟩ := avi_int rfl hv5
      obtain ⟨k6, rfl, lo_k6, hi_k6⟩ := avi_nn (lo := 0) (hi := 7) hv5
      refine lv_icmp_ge (tgt := 101) (pc := 12) hx hb dX0_callOn_12 rfl (fun c9 => ?_) (fun c9 => ?_)
      · refine lv_iload_n (pc := 101) hx hb dX0_callOn_101 rfl (lv_at hl 2 rfl) ?_
        refine lv_aload_n (pc := 102) hx hb dX0_callOn_102 rfl (lv_at hl 0 rfl) ?_
        refine h_get (pc := 103) X hI.1 (hFX0 28 _ rfl) z_q1 ((congrArg TS0.1 t_q1).trans rfl) rfl dX0_callOn_103 (fun vhv8 hv8 hEhv8 => ?_)
        obtain ⟨x9, rfl, -⟩ := avi_int rfl hv8
        refine lv_iconst (v := (-1)) (pc := 106) hx hb dX0_callOn_106 (by decide) ?_
        refine lv_ixor (pc := 107) hx hb dX0_callOn_107 ?_
        refine lv_iand (pc := 108) hx hb dX0_callOn_108 ?_
        refine lv_istore_n (lv' := [(3, .int (tl &&& (x9 ^^^ (-1)))), (0, .ref q1), (1, .int (nI k2)), (2, .int tl)]) (pc := 109) hx hb dX0_callOn_109 rfl hl (by decide) rfl (fun ls hl => ?_)
        refine lv_aload_n (pc := 110) hx hb dX0_callOn_110 rfl (lv_at hl 1 rfl) ?_
        refine lv_dup (pc := 111) hx hb dX0_callOn_111 rfl ?_
        refine h_get (pc := 112) X hI.1 (hFX0 28 _ rfl) z_q1 ((congrArg TS0.1 t_q1).trans rfl) rfl dX0_callOn_112 (fun vhv10 hv10 hEhv10 => ?_)
        obtain ⟨x11, rfl, -⟩ := avi_int rfl hv10
        refine lv_iload_n (pc := 115) hx hb dX0_callOn_115 rfl (lv_at hl 0 rfl) ?_
        refine lv_aload_n (pc := 116) hx hb dX0_callOn_116 rfl (lv_at hl 1 rfl) ?_
        refine h_get (pc := 117) X hI.1 (hFX0 24 _ rfl) z_q1 ((congrArg TS0.1 t_q1).trans rfl) rfl dX0_callOn_117 (fun vhv12 hv12 hEhv12 => ?_)
        obtain rfl := FE_fun hEhv12 FV
        refine h_get (pc := 120) X hI.1 (hFX0 65 _ rfl) z_vq ((congrArg TS0.1 t_vq).trans rfl) rfl dX0_callOn_120 (fun vhv13 hv13 hEhv13 => ?_)
        obtain ⟨x15, rfl, -⟩ := avi_int rfl hv13
        obtain ⟨k14, rfl, lo_k14, hi_k14⟩ := avi_nn (lo := 0) (hi := 127) hv13
        refine lv_iconst (v := (-1)) (pc := 123) hx hb dX0_callOn_123 (by decide) ?_
        refine lv_ixor (pc := 124) hx hb dX0_callOn_124 ?_
        refine lv_aload_n (pc := 125) hx hb dX0_callOn_125 rfl (lv_at hl 1 rfl) ?_
        refine h_get (pc := 126) X hI.1 (hFX0 32 _ rfl) z_q1 ((congrArg TS0.1 t_q1).trans rfl) rfl dX0_callOn_126 (fun vhv16 hv16 hEhv16 => ?_)
        obtain ⟨x17, rfl, -⟩ := avi_int rfl hv16
        refine lv_ior (pc := 129) hx hb dX0_callOn_129 ?_
        refine lv_iand (pc := 130) hx hb dX0_callOn_130 ?_
        refine lv_ior (pc := 131) hx hb dX0_callOn_131 ?_
        refine lv_topi (fun v18 ev18 => ?_)
        refine h_put (pc := 132) (b := itop) X hI (hFX0 28 _ rfl) z_q1 ((congrArg TS0.1 t_q1).trans rfl) rfl rfl (avi_top _) (by decide) (by decide) (by rw [t_q1]; decide) dX0_callOn_132 (fun H locs hI hUn hEp => ?_)
        rw [t_q1] at hUn
        have FV := hUn.fld t_q1 (by decide) rfl (by decide) FV
        refine lv_aload_n (pc := 135) hx hb dX0_callOn_135 rfl (lv_at hl 1 rfl) ?_
        refine lv_dup (pc := 136) hx hb dX0_callOn_136 rfl ?_
        refine h_get (pc := 137) X hI.1 (hFX0 32 _ rfl) z_q1 ((congrArg TS0.1 t_q1).trans rfl) rfl dX0_callOn_137 (fun vhv19 hv19 hEhv19 => ?_)
        obtain ⟨x20, rfl, -⟩ := avi_int rfl hv19
        refine lv_iload_n (pc := 140) hx hb dX0_callOn_140 rfl (lv_at hl 0 rfl) ?_
        refine lv_ior (pc := 141) hx hb dX0_callOn_141 ?_
        refine h_put (pc := 142) (b := itop) X hI (hFX0 32 _ rfl) z_q1 ((congrArg TS0.1 t_q1).trans rfl) rfl rfl (avi_top _) (by decide) (by decide) (by rw [t_q1]; decide) dX0_callOn_142 (fun H locs hI hUn hEp => ?_)
        rw [t_q1] at hUn
        have FV := hUn.fld t_q1 (by decide) rfl (by decide) FV
        exact h_vret (pc := 145) X hI hQ hr (Or.inr (Or.inr (Or.inr (Or.inl ⟨rfl, rfl⟩)))) rfl dX0_callOn_145
      · have i9 : i < k6 := (nI_ltI (by omega) (by omega)).mp (Int32.not_le.mp c9)
        refine lv_aload_n (pc := 15) hx hb dX0_callOn_15 rfl (lv_at hl 0 rfl) ?_
        refine h_get (pc := 16) X hI.1 (hFX0 28 _ rfl) z_q1 ((congrArg TS0.1 t_q1).trans rfl) rfl dX0_callOn_16 (fun vhv21 hv21 hEhv21 => ?_)
        obtain ⟨x22, rfl, -⟩ := avi_int rfl hv21
        refine lv_iload_n (pc := 19) hx hb dX0_callOn_19 rfl (lv_at hl 3 rfl) ?_
        refine h_call (pc := 20) (dd := 3) (avs := [.int x22, .int (nI i)]) (rs := []) X hI (COSN (ci := 0) (SX11_has_0 l g) (by decide) vX0_54) ⟨Nat.le_refl _, Nat.le_refl _, Nat.le_refl _, Nat.le_refl _⟩ (by decide) hl.1 rfl rfl hU no_pf ⟨avi_top _, avi_top _, trivial⟩ (fun h => by cases h) (md_sub (by decide)) (Nat.le_of_ble_eq_true rfl) dX0_callOn_20 (fun vr H locs hro hI hUn => ?_)
        have FV := hUn.fld t_q1 (by decide) rfl (by decide) FV
        obtain ⟨vhv23, rfl, hv23, imhv23⟩ := RO_some rfl hro
        obtain ⟨x25, rfl, -⟩ := avi_int rfl hv23
        obtain ⟨k24, rfl, lo_k24, hi_k24⟩ := avi_nn (lo := 0) (hi := 1) hv23
        refine lv_if_eq (tgt := 43) (pc := 23) hx hb dX0_callOn_23 rfl (fun c26 => ?_) (fun c26 => ?_)
        · refine lv_iconst (v := (-1)) (pc := 43) hx hb dX0_callOn_43 (by decide) ?_
          refine lv_istore (lv' := [(4, .int (-1)), (0, .ref q1), (1, .int (nI k2)), (2, .int tl), (3, .int (nI i))]) (pc := 44) hx hb dX0_callOn_44 hl (by decide) rfl (fun ls hl => ?_)
          refine lv_iload (pc := 46) hx hb dX0_callOn_46 (lv_at hl 0 rfl) ?_
          refine lv_iconst (v := (-1)) (pc := 48) hx hb dX0_callOn_48 (by decide) ?_
          refine lv_icmp_eq (tgt := 95) (pc := 49) hx hb dX0_callOn_49 rfl (fun c27 => ?_) (fun c27 => absurd (by decide) c27)
          refine lv_iinc (v := nI (i + 1)) (lv' := [(3, .int (nI (i + 1))), (4, .int (-1)), (0, .ref q1), (1, .int (nI k2)), (2, .int tl)]) (pc := 95) hx hb dX0_callOn_95 hl (k := 4) rfl ((nI_succ i).symm) (by decide) rfl (fun ls hl => ?_)
          refine lv_goto (tgt := 4) (pc := 98) hx hb dX0_callOn_98 rfl ?_
          exact ihA tl (i + 1) (by omega) (by omega) _ _ _ hI FV (lv_sub hl [2, 3, 4, 0] rfl)
        · refine lv_aload_n (pc := 26) hx hb dX0_callOn_26 rfl (lv_at hl 0 rfl) ?_
          refine h_get (pc := 27) X hI.1 (hFX0 24 _ rfl) z_q1 ((congrArg TS0.1 t_q1).trans rfl) rfl dX0_callOn_27 (fun vhv28 hv28 hEhv28 => ?_)
          obtain rfl := FE_fun hEhv28 FV
          refine lv_iload_n (pc := 30) hx hb dX0_callOn_30 rfl (lv_at hl 3 rfl) ?_
          refine lv_aload_n (pc := 31) hx hb dX0_callOn_31 rfl (lv_at hl 0 rfl) ?_
          refine h_get (pc := 32) X hI.1 (hFX0 9 _ rfl) z_q1 ((congrArg TS0.1 t_q1).trans rfl) rfl dX0_callOn_32 (fun vhv29 hv29 hEhv29 => ?_)
          obtain ⟨q30, rfl, t_q30, z_q30⟩ := avi_ref rfl hv29
          have t_q30 : Γ q30 = 51 := t_q30
          refine lv_iload_n (pc := 35) hx hb dX0_callOn_35 rfl (lv_at hl 3 rfl) ?_
          obtain ⟨f9, A9, b9⟩ := h_ints (Or.inr (Or.inl rfl)) hI.1 z_q30 ((congrArg TS0.1 t_q30).trans rfl)
          have b9 := b9 i (by omega)
          refine h_ialdK (pc := 36) X A9 (by omega) (by decide) dX0_callOn_36 ?_
          obtain ⟨kc, ekc, lo_kc, hi_kc⟩ := avi_nn (lo := 0) (hi := 6) b9
          rw [ekc]
          refine h_call (pc := 37) (dd := 3) (avs := [.ref vq, .int (nI i), .int (nI kc)]) (rs := []) X hI (COV (SX10_nextOnCard_0 l g) (by decide) vX0_58 rfl) ⟨Nat.le_refl _, Nat.le_refl _, Nat.le_refl _, Nat.le_refl _⟩ (by decide) hl.1 rfl rfl hU no_pf ⟨av_r t_vq z_vq, avi_nI (lo := 0) (hi := 6) (k := i) (by omega) (by omega) (by decide), avi_nI (lo := 0) (hi := 6) (k := kc) (by omega) (by omega) (by decide), trivial⟩ (fun _ => ⟨_, _, _, rfl, z_vq, (congrArg TS0.1 t_vq).trans rfl⟩) (md_sub (by decide)) (Nat.le_of_ble_eq_true rfl) dX0_callOn_37 (fun vr H locs hro hI hUn => ?_)
          have FV := hUn.fld t_q1 (by decide) rfl (by decide) FV
          have hEhv29 := hUn.fld t_q1 (by decide) rfl (by decide) hEhv29
          have A9 := A9.kept (hUn.arr t_q30 (by decide) rfl (by decide))
          obtain ⟨vhv31, rfl, hv31, imhv31⟩ := RO_some rfl hro
          obtain ⟨x32, rfl, lo_x32, hi_x32⟩ := avi_int rfl hv31
          have lo_x32 : (-1 : Int) ≤ x32.toInt := lo_x32
          have hi_x32 : x32.toInt ≤ (6 : Int) := hi_x32
          have im9 : (0 : Int) ≤ x32.toInt → kc ≤ 5 := fun h => by
            obtain ⟨u, e1, e2⟩ := imhv31 _ List.mem_cons_self x32 rfl h (by have := Int32.toInt_lt x32; show _ ≤ (2147483647 : Int); omega)
            cases e1
            obtain ⟨j, e3, -, e4⟩ := avi_nn (lo := 0) (hi := 5) e2
            have := (nI_eq (by omega) (by omega)).mp e3
            omega
          refine lv_goto (tgt := 44) (pc := 40) hx hb dX0_callOn_40 rfl ?_
          refine lv_istore (lv' := [(4, .int x32), (0, .ref q1), (1, .int (nI k2)), (2, .int tl), (3, .int (nI i))]) (pc := 44) hx hb dX0_callOn_44 hl (by decide) rfl (fun ls hl => ?_)
          refine lv_iload (pc := 46) hx hb dX0_callOn_46 (lv_at hl 0 rfl) ?_
          refine lv_iconst (v := (-1)) (pc := 48) hx hb dX0_callOn_48 (by decide) ?_
          refine lv_icmp_eq (tgt := 95) (pc := 49) hx hb dX0_callOn_49 rfl (fun c9 => ?_) (fun c9 => ?_)
          · refine lv_iinc (v := nI (i + 1)) (lv' := [(3, .int (nI (i + 1))), (4, .int x32), (0, .ref q1), (1, .int (nI k2)), (2, .int tl)]) (pc := 95) hx hb dX0_callOn_95 hl (k := 4) rfl ((nI_succ i).symm) (by decide) rfl (fun ls hl => ?_)
            refine lv_goto (tgt := 4) (pc := 98) hx hb dX0_callOn_98 rfl ?_
            exact ihA tl (i + 1) (by omega) (by omega) _ _ _ hI FV (lv_sub hl [2, 3, 4, 0] rfl)
          · have n9 : x32.toInt ≠ (-1 : Int) := fun h => c9 (Int32.toInt_inj.mp h)
            have n5 := im9 (by omega)
            obtain ⟨ot, eot, lo_ot, hi_ot⟩ := avi_nn (g := g) (Γ := Γ) (lo := 0) (hi := 6) (show avi g Γ (0, .ofNat 0, .ofNat 6) (.int x32) from ⟨rfl, (show (0 : Int) ≤ _ by omega), (show _ ≤ (6 : Int) by omega)⟩)
            refine lv_aload_n (pc := 52) hx hb dX0_callOn_52 rfl (lv_at hl 1 rfl) ?_
            refine h_get (pc := 53) X hI.1 (hFX0 24 _ rfl) z_q1 ((congrArg TS0.1 t_q1).trans rfl) rfl dX0_callOn_53 (fun vhv33 hv33 hEhv33 => ?_)
            obtain rfl := FE_fun hEhv33 FV
            refine lv_iload_n (pc := 56) hx hb dX0_callOn_56 rfl (lv_at hl 4 rfl) ?_
            refine lv_iload_n (pc := 57) hx hb dX0_callOn_57 rfl (lv_at hl 2 rfl) ?_
            refine h_call (pc := 58) (dd := 3) (avs := [.ref vq, .int (nI i), .int (nI k2)]) (rs := []) X hI (COV (SX10_callable_0 l g) (by decide) vX0_62 rfl) ⟨Nat.le_refl _, Nat.le_refl _, Nat.le_refl _, Nat.le_refl _⟩ (by decide) hl.1 rfl rfl hU no_pf ⟨av_r t_vq z_vq, avi_nI (lo := 0) (hi := 6) (k := i) (by omega) (by omega) (by decide), avi_nI (lo := 0) (hi := 24) (k := k2) (by omega) (by omega) (by decide), trivial⟩ (fun _ => ⟨_, _, _, rfl, z_vq, (congrArg TS0.1 t_vq).trans rfl⟩) (md_sub (by decide)) (Nat.le_of_ble_eq_true rfl) dX0_callOn_58 (fun vr H locs hro hI hUn => ?_)
            have FV := hUn.fld t_q1 (by decide) rfl (by decide) FV
            have hEhv29 := hUn.fld t_q1 (by decide) rfl (by decide) hEhv29
            have A9 := A9.kept (hUn.arr t_q30 (by decide) rfl (by decide))
            obtain ⟨vhv34, rfl, hv34, imhv34⟩ := RO_some rfl hro
            obtain ⟨x36, rfl, -⟩ := avi_int rfl hv34
            obtain ⟨k35, rfl, lo_k35, hi_k35⟩ := avi_nn (lo := 0) (hi := 127) hv34
            refine lv_iload (pc := 61) hx hb dX0_callOn_61 (lv_at hl 0 rfl) ?_
            refine h_call (pc := 63) (dd := 3) (avs := [.int (nI k35), .int x32]) (rs := []) X hI (COSN (ci := 0) (SX11_has_0 l g) (by decide) vX0_54) ⟨Nat.le_refl _, Nat.le_refl _, Nat.le_refl _, Nat.le_refl _⟩ (by decide) hl.1 rfl rfl hU no_pf ⟨avi_top _, avi_top _, trivial⟩ (fun h => by cases h) (md_sub (by decide)) (Nat.le_of_ble_eq_true rfl) dX0_callOn_63 (fun vr H locs hro hI hUn => ?_)
            have FV := hUn.fld t_q1 (by decide) rfl (by decide) FV
            have hEhv29 := hUn.fld t_q1 (by decide) rfl (by decide) hEhv29
            have A9 := A9.kept (hUn.arr t_q30 (by decide) rfl (by decide))
            obtain ⟨vhv37, rfl, hv37, imhv37⟩ := RO_some rfl hro
            obtain ⟨x39, rfl, -⟩ := avi_int rfl hv37
            obtain ⟨k38, rfl, lo_k38, hi_k38⟩ := avi_nn (lo := 0) (hi := 1) hv37
            refine lv_if_eq (tgt := 95) (pc := 66) hx hb dX0_callOn_66 rfl (fun c40 => ?_) (fun c40 => ?_)
            · refine lv_iinc (v := nI (i + 1)) (lv' := [(3, .int (nI (i + 1))), (4, .int x32), (0, .ref q1), (1, .int (nI k2)), (2, .int tl)]) (pc := 95) hx hb dX0_callOn_95 hl (k := 4) rfl ((nI_succ i).symm) (by decide) rfl (fun ls hl => ?_)
              refine lv_goto (tgt := 4) (pc := 98) hx hb dX0_callOn_98 rfl ?_
              exact ihA tl (i + 1) (by omega) (by omega) _ _ _ hI FV (lv_sub hl [2, 3, 4, 0] rfl)
            · refine lv_iload_n (pc := 69) hx hb dX0_callOn_69 rfl (lv_at hl 3 rfl) ?_
              refine lv_iload (pc := 70) hx hb dX0_callOn_70 (lv_at hl 0 rfl) ?_
              refine h_call (pc := 72) (dd := 3) (avs := [.int tl, .int x32]) (rs := []) X hI (COSN (ci := 0) (SX11_has_0 l g) (by decide) vX0_54) ⟨Nat.le_refl _, Nat.le_refl _, Nat.le_refl _, Nat.le_refl _⟩ (by decide) hl.1 rfl rfl hU no_pf ⟨avi_top _, avi_top _, trivial⟩ (fun h => by cases h) (md_sub (by decide)) (Nat.le_of_ble_eq_true rfl) dX0_callOn_72 (fun vr H locs hro hI hUn => ?_)
              have FV := hUn.fld t_q1 (by decide) rfl (by decide) FV
              have hEhv29 := hUn.fld t_q1 (by decide) rfl (by decide) hEhv29
              have A9 := A9.kept (hUn.arr t_q30 (by decide) rfl (by decide))
              obtain ⟨vhv41, rfl, hv41, imhv41⟩ := RO_some rfl hro
              obtain ⟨x43, rfl, -⟩ := avi_int rfl hv41
              obtain ⟨k42, rfl, lo_k42, hi_k42⟩ := avi_nn (lo := 0) (hi := 1) hv41
              refine lv_if_ne (tgt := 95) (pc := 75) hx hb dX0_callOn_75 rfl (fun c44 => ?_) (fun c44 => ?_)
              · refine lv_iinc (v := nI (i + 1)) (lv' := [(3, .int (nI (i + 1))), (4, .int x32), (0, .ref q1), (1, .int (nI k2)), (2, .int tl)]) (pc := 95) hx hb dX0_callOn_95 hl (k := 4) rfl ((nI_succ i).symm) (by decide) rfl (fun ls hl => ?_)
                refine lv_goto (tgt := 4) (pc := 98) hx hb dX0_callOn_98 rfl ?_
                exact ihA tl (i + 1) (by omega) (by omega) _ _ _ hI FV (lv_sub hl [2, 3, 4, 0] rfl)
              · refine lv_iload_n (pc := 78) hx hb dX0_callOn_78 rfl (lv_at hl 3 rfl) ?_
                refine lv_iconst (v := 1) (pc := 79) hx hb dX0_callOn_79 (by decide) ?_
                refine lv_iload (pc := 80) hx hb dX0_callOn_80 (lv_at hl 0 rfl) ?_
                refine lv_ishl (pc := 82) hx hb dX0_callOn_82 ?_
                refine lv_ior (pc := 83) hx hb dX0_callOn_83 ?_
                refine lv_istore_n (lv' := [(2, .int (tl ||| (1 <<< (x32 &&& 31)))), (4, .int x32), (0, .ref q1), (1, .int (nI k2)), (3, .int (nI i))]) (pc := 84) hx hb dX0_callOn_84 rfl hl (by decide) rfl (fun ls hl => ?_)
                refine lv_aload_n (pc := 85) hx hb dX0_callOn_85 rfl (lv_at hl 2 rfl) ?_
                refine h_get (pc := 86) X hI.1 (hFX0 9 _ rfl) z_q1 ((congrArg TS0.1 t_q1).trans rfl) rfl dX0_callOn_86 (fun vhv45 hv45 hEhv45 => ?_)
                obtain rfl := FE_fun hEhv45 hEhv29
                refine lv_iload_n (pc := 89) hx hb dX0_callOn_89 rfl (lv_at hl 4 rfl) ?_
                refine lv_dup2_11 (pc := 90) hx hb dX0_callOn_90 rfl rfl ?_
                refine h_ialdK (pc := 91) X A9 (by omega) (by decide) dX0_callOn_91 ?_
                rw [ekc]
                refine lv_iconst (v := 1) (pc := 92) hx hb dX0_callOn_92 (by decide) ?_
                refine lv_iadd (pc := 93) hx hb dX0_callOn_93 ?_
                refine lv_topi (fun v46 ev46 => ?_)
                obtain rfl : v46 = nI (kc + 1) := ev46.trans (nI_1 _)
                refine h_sto (pc := 94) (b := vi 0 6) X hI z_q30 (Or.inl ⟨rfl, rfl⟩) ((congrArg TS0.1 t_q30).trans rfl) (avi_nI (lo := 0) (hi := 6) (k := i) (Nat.zero_le _) (by omega) (by decide)) (by decide) (by decide) (avi_nI (lo := 0) (hi := 6) (k := (kc + 1)) (by omega) (by omega) (by decide)) (by decide) (by rw [t_q30]; decide) dX0_callOn_94 (fun H locs hI hUn => ?_)
                rw [t_q30] at hUn
                have FV := hUn.fld t_q1 (by decide) rfl (by decide) FV
                have hEhv29 := hUn.fld t_q1 (by decide) rfl (by decide) hEhv29
                refine lv_iinc (v := nI (i + 1)) (lv' := [(3, .int (nI (i + 1))), (2, .int (tl ||| (1 <<< (x32 &&& 31)))), (4, .int x32), (0, .ref q1), (1, .int (nI k2))]) (pc := 95) hx hb dX0_callOn_95 hl (k := 4) rfl ((nI_succ i).symm) (by decide) rfl (fun ls hl => ?_)
                refine lv_goto (tgt := 4) (pc := 98) hx hb dX0_callOn_98 rfl ?_
                exact ihA (tl ||| (1 <<< (x32 &&& 31))) (i + 1) (by omega) (by omega) _ _ _ hI FV (lv_sub hl [3, 4, 1, 0] rfl)
  exact loopA 8 0 0 (by decide) (by decide) _ _ _ hI FV (lv_sub hl [2, 3, 1, 0] rfl)
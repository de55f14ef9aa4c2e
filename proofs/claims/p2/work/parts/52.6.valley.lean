theorem dX11_valley_26 : decode cX11_valley 26 = .ok (.aload_n 0, 1) := by decide +kernel
theorem dX11_valley_27 : decode cX11_valley 27 = .ok (.getfield 78, 3) := by decide +kernel
theorem m_479 : (Cond.methodLink "NoonValley" 98 yX10_settle) ∈ BW := bw (tb2 239 (by decide +kernel)) (by decide +kernel)
theorem m_482 : (Cond.code yX10_settle prog_12_method_3_code 2 (Option.none : Option Jvm.ClassFile.FieldType)) ∈ BW := bw (tb3 2 (by decide +kernel)) (by decide +kernel)
theorem m_480 : (Cond.instanceMethod yX10_settle) ∈ BW := bw (tb3 0 (by decide +kernel)) (by decide +kernel)
theorem m_481 : (Cond.selects "NoonValley$Valley" yX10_settle yX10_settle) ∈ BW := bw (tb3 1 (by decide +kernel)) (by decide +kernel)
theorem vX11_98 : LV RX11 98 RX10 yX10_settle cX10_settle 2 none 0 := ⟨m_479, m_480, m_481, m_11, m_482, rfl, by decide, by decide, by decide +kernel⟩
theorem dX11_valley_30 : decode cX11_valley 30 = .ok (.invokevirtual 98, 3) := by decide +kernel
theorem dX11_valley_33 : decode cX11_valley 33 = .ok (.aload_n 0, 1) := by decide +kernel
theorem dX11_valley_34 : decode cX11_valley 34 = .ok (.getfield 18, 3) := by decide +kernel
theorem dX11_valley_37 : decode cX11_valley 37 = .ok (.aload_n 0, 1) := by decide +kernel
theorem dX11_valley_38 : decode cX11_valley 38 = .ok (.getfield 94, 3) := by decide +kernel
theorem dX11_valley_41 : decode cX11_valley 41 = .ok (.aload_n 0, 1) := by decide +kernel
theorem dX11_valley_42 : decode cX11_valley 42 = .ok (.getfield 78, 3) := by decide +kernel
theorem dX11_valley_45 : decode cX11_valley 45 = .ok (.aastore, 1) := by decide +kernel
theorem dX11_valley_46 : decode cX11_valley 46 = .ok (.aload_n 0, 1) := by decide +kernel
theorem dX11_valley_47 : decode cX11_valley 47 = .ok (.new 16, 3) := by decide +kernel
theorem dX11_valley_50 : decode cX11_valley 50 = .ok (.dup, 1) := by decide +kernel
theorem dX11_valley_51 : decode cX11_valley 51 = .ok (.invokespecial 77, 3) := by decide +kernel
theorem dX11_valley_54 : decode cX11_valley 54 = .ok (.putfield 78, 3) := by decide +kernel
theorem dX11_valley_57 : decode cX11_valley 57 = .ok (.aload_n 0, 1) := by decide +kernel
theorem dX11_valley_58 : decode cX11_valley 58 = .ok (.getfield 10, 3) := by decide +kernel
theorem dX11_valley_61 : decode cX11_valley 61 = .ok (.iconst 0, 1) := by decide +kernel
theorem dX11_valley_62 : decode cX11_valley 62 = .ok (.invokevirtual 86, 3) := by decide +kernel
theorem dX11_valley_65 : decode cX11_valley 65 = .ok (.pop, 1) := by decide +kernel
theorem dX11_valley_66 : decode cX11_valley 66 = .ok (.aload_n 0, 1) := by decide +kernel
theorem dX11_valley_67 : decode cX11_valley 67 = .ok (.dup, 1) := by decide +kernel
theorem dX11_valley_68 : decode cX11_valley 68 = .ok (.getfield 94, 3) := by decide +kernel
theorem dX11_valley_71 : decode cX11_valley 71 = .ok (.iconst 1, 1) := by decide +kernel
theorem dX11_valley_72 : decode cX11_valley 72 = .ok (.iadd, 1) := by decide +kernel
theorem dX11_valley_73 : decode cX11_valley 73 = .ok (.putfield 94, 3) := by decide +kernel
theorem dX11_valley_76 : decode cX11_valley 76 = .ok (.aload_n 0, 1) := by decide +kernel
theorem dX11_valley_77 : decode cX11_valley 77 = .ok (.getfield 94, 3) := by decide +kernel
theorem dX11_valley_80 : decode cX11_valley 80 = .ok (.iconst 1, 1) := by decide +kernel
theorem dX11_valley_81 : decode cX11_valley 81 = .ok (.isub, 1) := by decide +kernel
theorem dX11_valley_82 : decode cX11_valley 82 = .ok (.ireturn, 1) := by decide +kernel
set_option maxHeartbeats 4000000 in
set_option maxRecDepth 100000 in
theorem GX11_valley (l : Launch) (g : GG) (x0 m0 : Nat) : GM l g yX11_valley cX11_valley 1 9 13 380 x0 m0 [.ref x0] := by
  refine GM_of (own := RX11) rfl (by decide) (Nat.le_of_ble_eq_true rfl) ?_
  intro p e s m below meth c Γ0 ls args Q hQ X hr hF hL hl
  have hx := X.1
  have hb := X.2.1
  have hl : lv_has ls 1 [(0, .ref x0)] := hl
  refine lv_aload_n (pc := 0) hx hb dX11_valley_0 rfl (lv_at hl 0 rfl) ?_
  refine f_get (pc := 1) X hF (hFX11 94 (false, 11, 11, true, 0) rfl) (by rw [hL.1]; decide) ((congrArg TS0.1 hL.1).trans rfl) rfl dX11_valley_1 (fun w7 hv7 hE => ?_)
  obtain ⟨n0, rfl, hn0, -⟩ := avi_int rfl hv7
  have hn0 : (0 : Int) ≤ n0.toInt := hn0
  refine lv_bipush (v := 10) (pc := 4) hx hb dX11_valley_4 (by decide) ?_
  refine lv_icmp_ge (tgt := 24) (pc := 6) hx hb dX11_valley_6 rfl (fun c1 => ?_) (fun c1 => ?_)
  · refine lv_iconst (v := (-1)) (pc := 24) hx hb dX11_valley_24 (by decide) ?_
    exact g_i X hQ hr hF hL ⟨Nat.le_of_ble_eq_true rfl, Nat.le_of_ble_eq_true rfl⟩ dX11_valley_25
  · have hn1 : n0.toInt < 10 := Int32.lt_iff_toInt_lt.mp (Int32.not_le.mp c1)
    refine lv_aload_n (pc := 9) hx hb dX11_valley_9 rfl (lv_at hl 0 rfl) ?_
    refine f_get (pc := 10) X hF (hFX11 10 (false, 11, 0, false, 2) rfl) (by rw [hL.1]; decide) ((congrArg TS0.1 hL.1).trans rfl) rfl dX11_valley_10 (fun w7 hv7 _ => ?_)
    obtain ⟨tp, rfl, ttp, -⟩ := avi_ref rfl hv7
    have ttp := (ttp : _ = 2)
    refine lv_aload_n (pc := 13) hx hb dX11_valley_13 rfl (lv_at hl 0 rfl) ?_
    refine f_get (pc := 14) X hF (hFX11 78 (false, 11, 10, true, 2) rfl) (by rw [hL.1]; decide) ((congrArg TS0.1 hL.1).trans rfl) rfl dX11_valley_14 (fun w7 hv7 hS => ?_)
    obtain ⟨sp, rfl, tsp, -⟩ := avi_ref rfl hv7
    have tsp : Γ0 sp = 13 := tsp
    refine f_callT (pc := 17) (ci := 8) (As := [.ref sp]) (rs := []) X hF (STX8_read l g) vX11_90 rfl (by rw [ttp]; decide) ((congrArg TS0.1 ttp).trans rfl) ⟨av_ref ttp (by decide), av_ref tsp (by decide), trivial⟩ rfl rfl hl.1 rfl (Nat.le_of_ble_eq_true rfl) ⟨Nat.le_of_ble_eq_true rfl, Nat.le_of_ble_eq_true rfl⟩ ⟨Nat.le_of_ble_eq_true rfl, Nat.le_of_ble_eq_true rfl⟩ dX11_valley_17 (fun w9 H locs hro hsay hF hz9 hk9 hun => ?_)
    have hL := hL.keep hun rfl
    have hE := hun.fld hL.1 (by decide) rfl rfl hE
    have hS := hun.fld hL.1 (by decide) rfl rfl hS
    obtain ⟨w8, rfl, hw8, -⟩ := RO_some rfl hro
    obtain ⟨r0, rfl, -⟩ := avi_int rfl hw8
    refine lv_iconst (v := (-1)) (pc := 20) hx hb dX11_valley_20 (by decide) ?_
    refine lv_icmp_eq (tgt := 26) (pc := 21) hx hb dX11_valley_21 rfl (fun c2 => ?_) (fun c2 => ?_)
    · have hV := hsay _ rfl sp rfl (congrArg Value.int c2)
      refine lv_aload_n (pc := 26) hx hb dX11_valley_26 rfl (lv_at hl 0 rfl) ?_
      refine w_get (pc := 27) X (hFX11 78 (false, 11, 10, true, 2) rfl) hS dX11_valley_27 ?_
      obtain ⟨vs, hat, hvs⟩ := h_obj hF.1 (by rw [hL.1]; decide : Γ0 x0 ≠ 0) ((congrArg TS0.1 hL.1).trans rfl)
      have hvs : VR g Γ0 [vr 2, vr 20, vr 21, vr 5, vr 6, vr 8, vr 9, vr 10, vr 11, vr 12, vr 13, vi 0 10, vi 0 12, itop] vs := hvs
      obtain ⟨w11, e11, -⟩ := hvs.get (k := 11) rfl
      obtain rfl := FE_fun (FE_at (k := 11) hat rfl (by decide) e11) hE
      obtain ⟨w10, e10, -⟩ := hvs.get (k := 10) rfl
      obtain rfl := FE_fun (FE_at (k := 10) hat rfl (by decide) e10) hS
      obtain ⟨w1, e1, a1⟩ := hvs.get (k := 1) rfl
      obtain ⟨va, rfl, tva, -⟩ := avi_ref rfl a1
      have tva : Γ0 va = 20 := tva
      have hLg := hL
      have hFg := hF
      have hok := hL.2.2.1
      have rtu : ∀ x : Nat, rt Γ0 x0 x ≠ 0 → Γ0 x ≠ 0 := fun x hx => (rt1_a _ (okt_le (hok x))).1 (by rw [← (rt_nz hx).2]; exact hx)
      have rte : ∀ x t : Nat, Γ0 x = t → t ≠ 1 → rt Γ0 x0 x = rt1 t := fun x t e h => by rw [rt_ne (fun e2 => h (by rw [← e, e2]; exact hL.1)), e]
      have t3 : rt Γ0 x0 sp = 3 := rte sp 13 tsp (by decide)
      have hF : FR g (AA Γ0 s.heap.size) s (rt Γ0 x0) H locs := ⟨HT_rt hF.1 hF.2.1 hL tsp hV, UQ_rt hF.2.1 hok, fun x hx => hF.2.2.1 x (rtu x hx), hF.2.2.2⟩
      refine f_callV (pc := 30) (ci := 10) (As := []) (rs := []) X hF (SX10_settle_0 l g) vX11_98 rfl (by rw [t3]; decide) ((congrArg TS0.1 t3).trans rfl) ⟨av_ref t3 (by decide), trivial⟩ rfl rfl hl.1 rfl (Nat.le_of_ble_eq_true rfl) ⟨Nat.le_of_ble_eq_true rfl, Nat.le_of_ble_eq_true rfl⟩ ⟨Nat.le_of_ble_eq_true rfl, Nat.le_of_ble_eq_true rfl⟩ dX11_valley_30 (fun w9 H6 locs hro hF hz9 hk9 hun => ?_)
      obtain rfl := RO_none rfl hro
      have hat6 := hat.kept (hk9 x0 rt_self)
      refine lv_aload_n (pc := 33) hx hb dX11_valley_33 rfl (lv_at hl 0 rfl) ?_
      refine w_get (pc := 34) X (hFX11 18 (false, 11, 1, false, 2) rfl) (FE_at (k := 1) hat6 rfl (by decide) e1) dX11_valley_34 ?_
      refine lv_aload_n (pc := 37) hx hb dX11_valley_37 rfl (lv_at hl 0 rfl) ?_
      refine w_get (pc := 38) X (hFX11 94 (false, 11, 11, true, 0) rfl) (FE_at (k := 11) hat6 rfl (by decide) e11) dX11_valley_38 ?_
      refine lv_aload_n (pc := 41) hx hb dX11_valley_41 rfl (lv_at hl 0 rfl) ?_
      refine w_get (pc := 42) X (hFX11 78 (false, 11, 10, true, 2) rfl) (FE_at (k := 10) hat6 rfl (by decide) e10) dX11_valley_42 ?_
      obtain ⟨us, hus, -⟩ := h_obj hF.1 (by rw [t3]; decide : rt Γ0 x0 sp ≠ 0) ((congrArg TS0.1 t3).trans rfl)
      have t20 : rt Γ0 x0 va = 20 := rte va 20 tva (by decide)
      have nva : x0 ≠ va := fun e => by rw [← e, hL.1] at tva; cases tva
      refine f_aast (pc := 45) (q := va) (v := sp) (t := 3) (ci := 10) X hF (by rw [t20]; decide) (Or.inl rfl) rfl ((congrArg TS0.1 t20).trans rfl) (by rw [t20]; decide) hus rfl ⟨t3, by decide⟩ hn0 hn1 dX11_valley_45 (fun H7 locs hF hz7 ho7 hun7 => ?_)
      have hat7 := hat6.kept (ho7 x0 nva)
      refine lv_aload_n (pc := 46) hx hb dX11_valley_46 rfl (lv_at hl 0 rfl) ?_
      obtain ⟨z, hz⟩ : ∃ q : Nat, H7.size = q := ⟨_, rfl⟩
      have lt0 : ∀ x : Nat, Γ0 x ≠ 0 → x < z := fun x hx => by have := hFg.1.lt hx; omega
      have hx0z : x0 < z := lt0 x0 (by rw [hL.1]; decide)
      refine r_newE (pc := 47) (z := z) (fs := [.int 0, .int 0, .int 0, .null, .null, .null, .null, .null, .null, .null, .null, .null, .null, .null, .int 0, .null]) X (⟨vaP_nil, va_Dn, hF.2.2.2⟩ : WD g _ s H7 locs []) hz ciX10 m_48 m_267 m_11 (by decide +kernel) ⟨Nat.le_of_ble_eq_true rfl, Nat.le_of_ble_eq_true rfl⟩ dX11_valley_47 (fun H8 hz8 ho8 hW => ?_)
      refine lv_dup (pc := 50) hx hb dX11_valley_50 rfl ?_
      refine c_INvz (pc := 51) (As := []) (rest := [.ref z, .ref x0]) (wr := []) X hW hz8 (C_X10_initE l g z) vX11_77 [0] [] rfl rfl rfl rfl rfl rfl hl.1 rfl (Nat.le_of_ble_eq_true rfl) ⟨Nat.le_of_ble_eq_true rfl, Nat.le_of_ble_eq_true rfl⟩ ⟨Nat.le_of_ble_eq_true rfl, Nat.le_of_ble_eq_true rfl⟩ dX11_valley_51 (fun u9 H9 locs9 hq ho9 hW9 => ?_)
      obtain rfl := hq
      have hP9 : va_P g.1 CLS (XWd g z) H9 := hW9.1
      have ho : ∀ q : Nat, q < z → H9[q]? = H7[q]? := fun q hq => (ho9 q hq).trans (ho8 q hq)
      have rlt : ∀ x : Nat, rt Γ0 x0 x ≠ 0 → x < z := fun x hx => lt0 x (rtu x hx)
      have hT9 := HT_spare hF.1 hz ho hP9
      have hat9 := hat7.kept (ho x0 hx0z)
      have sz7 : s.heap.size ≤ z := by have := hF.2.2.2.1; omega
      refine w_put (pc := 54) X (hFX11 78 (false, 11, 10, true, 2) rfl) hat9 (by rw [hvs.len]; decide) rfl (b := vr 13) (v := .ref z) (av_ref (gw_new (Γ := rt Γ0 x0) (z := z) (L := VL) (i := 0) (by decide)) (by decide)) rfl dX11_valley_54 (fun H10 j hz10 ho10 hat10 hfe10 hE10 => ?_)
      have g0 : gw (rt Γ0 x0) z VL x0 = 0 := (gw_old hx0z).trans rt_self
      have hT10 := HT_bk (HT_ext hT9 fun q hq => ho10 q fun e => hq (by rw [e]; exact g0)) g0 hat10 (VR_GV hL.1 lt0 hvs)
      have fx : ∀ (k : Nat) (v : Value), k ≠ 10 → FE g x0 11 k H v → FE g x0 11 k H10 v := fun k v hk h => hfe10 k v hk (FE_kept (FE_kept (FE_kept h (hk9 x0 rt_self)) (ho7 x0 nva)) (ho x0 hx0z))
      have hLU := LF_GV (H1 := H10) hLg hFg.2.1 lt0 (FE_kept (FE_at (k := 9) (hP9 0 _ rfl) rfl (by decide) rfl) (ho10 z (Nat.ne_of_gt hx0z))) (fun a9 _ h => fx 9 _ (by decide) h) (fun a9 k v ha h => by
        have ta := rte a9 12 ha (by decide)
        have h6 := hun.fld ta (by decide) rfl rfl h
        have h7 := FE_kept h6 (ho7 a9 (fun e => by rw [e, tva] at ha; cases ha))
        exact FE_kept (FE_kept h7 (ho a9 (lt0 a9 (by rw [ha]; decide)))) (ho10 a9 (fun e => by rw [e, hLg.1] at ha; cases ha)))
      have hE := fx 11 _ (by decide) hE
      have hF : FR g (AA Γ0 s.heap.size) s (GV Γ0 x0 z) H10 (locs9 ++ [⟨x0, j⟩]) := ⟨hT10, hLU.2, fun x hx => by
        by_cases e : x = x0
        · exact Or.inl (by rw [e, hLg.1]; decide)
        · rw [GV, bk_ne e] at hx
          rcases gw_cases rlt hx with h | ⟨i, -, e1, -⟩
          · exact Or.inl (rtu x h.1)
          · exact Or.inr (by omega), hW9.2.2.put hz10 ho10 (Or.inl (by rw [hLg.1]; decide))⟩
      have hL := hLU.1
      refine lv_aload_n (pc := 57) hx hb dX11_valley_57 rfl (lv_at hl 0 rfl) ?_
      refine f_get (pc := 58) X hF (hFX11 10 (false, 11, 0, false, 2) rfl) (by rw [hL.1]; decide) ((congrArg TS0.1 hL.1).trans rfl) rfl dX11_valley_58 (fun w7 hv7 _ => ?_)
      obtain ⟨tp, rfl, ttp, -⟩ := avi_ref rfl hv7
      have ttp := (ttp : _ = 2)
      refine lv_iconst (v := 0) (pc := 61) hx hb dX11_valley_61 (by decide) ?_
      refine f_callV (pc := 62) (ci := 8) (As := [.int 0]) (rs := []) X hF (SX8_cut_0 l g) vX11_86 rfl (by rw [ttp]; decide) ((congrArg TS0.1 ttp).trans rfl) ⟨av_ref ttp (by decide), avi_top 0, trivial⟩ rfl rfl hl.1 rfl (Nat.le_of_ble_eq_true rfl) ⟨Nat.le_of_ble_eq_true rfl, Nat.le_of_ble_eq_true rfl⟩ ⟨Nat.le_of_ble_eq_true rfl, Nat.le_of_ble_eq_true rfl⟩ dX11_valley_62 (fun w9 H locs hro hF hz9 hk9 hun => ?_)
      have hL := hL.keep hun rfl
      have hE := hun.fld hL.1 (by decide) rfl rfl hE
      obtain ⟨w8, rfl, hw8, -⟩ := RO_some rfl hro
      obtain ⟨r1, rfl, -⟩ := avi_int rfl hw8
      refine lv_pop (pc := 65) hx hb dX11_valley_65 rfl ?_
      refine lv_aload_n (pc := 66) hx hb dX11_valley_66 rfl (lv_at hl 0 rfl) ?_
      refine lv_dup (pc := 67) hx hb dX11_valley_67 rfl ?_
      refine w_get (pc := 68) X (hFX11 94 (false, 11, 11, true, 0) rfl) hE dX11_valley_68 ?_
      refine lv_iconst (v := 1) (pc := 71) hx hb dX11_valley_71 (by decide) ?_
      refine lv_iadd (pc := 72) hx hb dX11_valley_72 ?_
      have hv9 : avi g (fun _ => 0) (vi 0 10) (.int (n0 + 1)) := ⟨rfl, by rw [i32_1 hn0 (by omega)]; show (0 : Int) ≤ _; omega, by rw [i32_1 hn0 (by omega)]; show _ ≤ (10 : Int); omega⟩
      refine f_put (pc := 73) X hF (hFX11 94 (false, 11, 11, true, 0) rfl) (b := vi 0 10) (by rw [hL.1]; decide) ((congrArg TS0.1 hL.1).trans rfl) rfl rfl (avi_i2 hv9) rfl rfl (by rw [hL.1]; rfl) dX11_valley_73 (fun H locs hF hz6 ho6 hun hE => ?_)
      have hL := hL.keep hun (by rw [hL.1]; rfl)
      refine lv_aload_n (pc := 76) hx hb dX11_valley_76 rfl (lv_at hl 0 rfl) ?_
      refine w_get (pc := 77) X (hFX11 94 (false, 11, 11, true, 0) rfl) hE dX11_valley_77 ?_
      refine lv_iconst (v := 1) (pc := 80) hx hb dX11_valley_80 (by decide) ?_
      refine lv_isub (pc := 81) hx hb dX11_valley_81 ?_
      exact g_i X hQ hr hF hL ⟨Nat.le_of_ble_eq_true rfl, Nat.le_of_ble_eq_true rfl⟩ dX11_valley_82
    · refine lv_iconst (v := (-1)) (pc := 24) hx hb dX11_valley_24 (by decide) ?_
      exact g_i X hQ hr hF hL ⟨Nat.le_of_ble_eq_true rfl, Nat.le_of_ble_eq_true rfl⟩ dX11_valley_25

theorem i32_1 {n : Int32} (h0 : 0 ≤ n.toInt) (h1 : n.toInt ≤ 1000) : (n + 1).toInt = n.toInt + 1 := by
  have e : n + 1 = Int32.ofInt (n.toInt + 1) := by rw [Int32.ofInt_add, Int32.ofInt_toInt]; rfl
  rw [e]
  exact Int32.toInt_ofInt_of_le (by omega) (by omega)
theorem dX11_plan_10 : decode cX11_plan 10 = .ok (.aload_n 0, 1) := DX11_plan _ _ _ rfl
theorem dX11_plan_11 : decode cX11_plan 11 = .ok (.getfield 151, 3) := DX11_plan _ _ _ rfl
theorem dX11_plan_14 : decode cX11_plan 14 = .ok (.bipush 12, 2) := DX11_plan _ _ _ rfl
theorem dX11_plan_16 : decode cX11_plan 16 = .ok (.if_icmp .lt 5, 3) := DX11_plan _ _ _ rfl
theorem dX11_plan_21 : decode cX11_plan 21 = .ok (.aload_n 0, 1) := DX11_plan _ _ _ rfl
theorem dX11_plan_22 : decode cX11_plan 22 = .ok (.getfield 24, 3) := DX11_plan _ _ _ rfl
theorem dX11_plan_25 : decode cX11_plan 25 = .ok (.aload_n 0, 1) := DX11_plan _ _ _ rfl
theorem dX11_plan_26 : decode cX11_plan 26 = .ok (.getfield 151, 3) := DX11_plan _ _ _ rfl
theorem m_561 : (Cond.instantiable "NoonValley$Plan" 9) ∈ BW := bw (tb3 81 rfl) (by decide +kernel)
theorem dX11_plan_29 : decode cX11_plan 29 = .ok (.new 22, 3) := DX11_plan _ _ _ rfl
theorem dX11_plan_32 : decode cX11_plan 32 = .ok (.dup, 1) := DX11_plan _ _ _ rfl
theorem dX11_plan_33 : decode cX11_plan 33 = .ok (.aload_n 2, 1) := DX11_plan _ _ _ rfl
theorem m_562 : (Cond.methodLink "NoonValley" 154 yX4_init) ∈ BW := bw (tb3 82 rfl) (by decide +kernel)
theorem m_563 : (Cond.instanceMethod yX4_init) ∈ BW := bw (tb3 83 rfl) (by decide +kernel)
theorem vX11_154 : LI RX11 154 yX4_init cX4_init 2 1 := ⟨m_562, m_563, m_18, m_564, rfl, by decide, by decide, by decide +kernel⟩
theorem dX11_plan_34 : decode cX11_plan 34 = .ok (.invokespecial 154, 3) := DX11_plan _ _ _ rfl
theorem dX11_plan_37 : decode cX11_plan 37 = .ok (.aastore, 1) := DX11_plan _ _ _ rfl
theorem dX11_plan_38 : decode cX11_plan 38 = .ok (.aload_n 0, 1) := DX11_plan _ _ _ rfl
theorem dX11_plan_39 : decode cX11_plan 39 = .ok (.dup, 1) := DX11_plan _ _ _ rfl
theorem dX11_plan_40 : decode cX11_plan 40 = .ok (.getfield 151, 3) := DX11_plan _ _ _ rfl
theorem dX11_plan_43 : decode cX11_plan 43 = .ok (.iconst 1, 1) := DX11_plan _ _ _ rfl
theorem dX11_plan_44 : decode cX11_plan 44 = .ok (.iadd, 1) := DX11_plan _ _ _ rfl
theorem dX11_plan_45 : decode cX11_plan 45 = .ok (.putfield 151, 3) := DX11_plan _ _ _ rfl
theorem dX11_plan_48 : decode cX11_plan 48 = .ok (.aload_n 0, 1) := DX11_plan _ _ _ rfl
theorem dX11_plan_49 : decode cX11_plan 49 = .ok (.getfield 151, 3) := DX11_plan _ _ _ rfl
theorem dX11_plan_52 : decode cX11_plan 52 = .ok (.iconst 1, 1) := DX11_plan _ _ _ rfl
theorem dX11_plan_53 : decode cX11_plan 53 = .ok (.isub, 1) := DX11_plan _ _ _ rfl
theorem dX11_plan_54 : decode cX11_plan 54 = .ok (.ireturn, 1) := DX11_plan _ _ _ rfl
set_option maxHeartbeats 4000000 in
set_option maxRecDepth 100000 in
theorem GX11_plan (l : Launch) (g : GG) (x0 m0 : Nat) (p0 : Int32) : GM l g yX11_plan cX11_plan 3 3 8 289 x0 m0 [.ref x0, .int p0] := by
  refine GM_of (own := RX11) rfl (by decide) (Nat.le_of_ble_eq_true rfl) ?_
  intro p e s m below meth c Γ0 ls args Q hQ X hr hF hL hl
  have hx := X.1
  have hb := X.2.1
  have hl : lv_has ls 3 [(0, .ref x0), (1, .int p0)] := hl
  refine lv_aload_n (pc := 0) hx hb dX11_plan_0 rfl (lv_at hl 0 rfl) ?_
  refine lv_iload_n (pc := 1) hx hb dX11_plan_1 rfl (lv_at hl 1 rfl) ?_
  refine f_callV (pc := 2) (ci := 11) (As := [.int p0]) (rs := []) X hF (SX11_valleyAt_0 l g) vX11_101 rfl (by rw [hL.1]; decide) ((congrArg TS0.1 hL.1).trans rfl) ⟨av_ref hL.1 (by decide), avi_top p0, trivial⟩ rfl rfl hl.1 rfl (Nat.le_of_ble_eq_true rfl) ⟨Nat.le_of_ble_eq_true rfl, Nat.le_of_ble_eq_true rfl⟩ ⟨Nat.le_of_ble_eq_true rfl, Nat.le_of_ble_eq_true rfl⟩ dX11_plan_2 (fun w9 H locs hro hF hz9 hk9 hun => ?_)
  have hL := hL.keep hun rfl
  obtain ⟨w8, rfl, hw8, -⟩ := RO_some rfl hro
  rcases avi_nr (t := 3) hw8 with ⟨v0, rfl, tv, -⟩ | rfl
  · refine lv_astore_n (lv' := [(2, .ref v0), (0, .ref x0), (1, .int p0)]) (pc := 5) hx hb dX11_plan_5 rfl hl (by decide) rfl (fun ls hl => ?_)
    refine lv_aload_n (pc := 6) hx hb dX11_plan_6 rfl (lv_at hl 0 rfl) ?_
    refine lv_ifnull (pc := 7) hx hb dX11_plan_7 ?_
    refine lv_aload_n (pc := 10) hx hb dX11_plan_10 rfl (lv_at hl 1 rfl) ?_
    refine f_get (pc := 11) X hF (hFX11 151 (false, 11, 12, true, 0) rfl) (by rw [hL.1]; decide) ((congrArg TS0.1 hL.1).trans rfl) rfl dX11_plan_11 (fun w7 hv7 hE => ?_)
    obtain ⟨n0, rfl, hn0, -⟩ := avi_int rfl hv7
    have hn0 : (0 : Int) ≤ n0.toInt := hn0
    refine lv_bipush (v := 12) (pc := 14) hx hb dX11_plan_14 (by decide) ?_
    refine lv_icmp_lt (tgt := 21) (pc := 16) hx hb dX11_plan_16 rfl (fun c1 => ?_) (fun c1 => ?_)
    · refine lv_aload_n (pc := 21) hx hb dX11_plan_21 rfl (lv_at hl 1 rfl) ?_
      have hn1 : n0.toInt < 12 := Int32.lt_iff_toInt_lt.mp c1
      refine f_get (pc := 22) X hF (hFX11 24 (false, 11, 2, false, 2) rfl) (by rw [hL.1]; decide) ((congrArg TS0.1 hL.1).trans rfl) rfl dX11_plan_22 (fun w7 hv7 _ => ?_)
      obtain ⟨pa, rfl, tpa, -⟩ := avi_ref rfl hv7
      have tpa : Γ0 pa = 21 := tpa
      refine lv_aload_n (pc := 25) hx hb dX11_plan_25 rfl (lv_at hl 1 rfl) ?_
      refine w_get (pc := 26) X (hFX11 151 (false, 11, 12, true, 0) rfl) hE dX11_plan_26 ?_
      obtain ⟨z, hz⟩ : ∃ q : Nat, H.size = q := ⟨_, rfl⟩
      have lt0 : ∀ x : Nat, Γ0 x ≠ 0 → x < z := fun x hx => hz ▸ hF.1.lt hx
      refine r_newE (pc := 29) (z := z) (fs := [.null, .int 0, .null, .null, .null, .null, .null, .null, .null]) X (⟨vaP_nil, va_Dn, hF.2.2.2⟩ : WD g _ s H locs []) hz ciX4 m_50 m_561 m_18 (by decide +kernel) ⟨Nat.le_of_ble_eq_true rfl, Nat.le_of_ble_eq_true rfl⟩ dX11_plan_29 (fun H4 hz4 ho4 hW => ?_)
      refine lv_dup (pc := 32) hx hb dX11_plan_32 rfl ?_
      refine lv_aload_n (pc := 33) hx hb dX11_plan_33 rfl (lv_at hl 0 rfl) ?_
      refine c_Ivz (pc := 34) (As := [.ref v0]) (rest := [.ref z, .int n0, .ref pa]) (wr := []) X hW hz4 (C_X4_initE l g z v0) vX11_154 [0] [] rfl rfl rfl rfl rfl rfl hl.1 rfl (Nat.le_of_ble_eq_true rfl) ⟨Nat.le_of_ble_eq_true rfl, Nat.le_of_ble_eq_true rfl⟩ ⟨Nat.le_of_ble_eq_true rfl, Nat.le_of_ble_eq_true rfl⟩ dX11_plan_34 (fun u9 H5 locs5 hq ho5 hW5 => ?_)
      obtain rfl := hq
      have hP5 : va_P g.1 CLS (PWd g z v0) H5 := hW5.1
      have ho : ∀ q : Nat, q < z → H5[q]? = H[q]? := fun q hq => (ho5 q hq).trans (ho4 q hq)
      have hE := FE_kept hE (ho x0 (lt0 x0 (by rw [hL.1]; decide)))
      have tpa : gw Γ0 z PL pa = 21 := (gw_old (lt0 pa (by rw [tpa]; decide))).trans tpa
      have hL := LF_gw (z := z) (L := PL) hL (fun q hq => ho q (lt0 q hq)) lt0 rfl
      have hF : FR g (AA Γ0 s.heap.size) s (gw Γ0 z PL) H5 locs5 := ⟨HT_plan hF.1 hz ho hP5 tv, UQ_gw hF.2.1 lt0 rfl, fun x hx => (gw_cases lt0 hx).elim (fun h => Or.inl h.1) (fun ⟨i, _, e1, _⟩ => Or.inr (by have := hF.2.2.2.1; omega)), hW5.2.2⟩
      refine f_aast (pc := 37) (q := pa) (v := z) (t := 4) (ci := 4) X hF (by rw [tpa]; decide) (Or.inr rfl) rfl ((congrArg TS0.1 tpa).trans rfl) (by rw [tpa]; decide) (hP5 0 _ rfl) rfl ⟨gw_new (i := 0) (by decide), by decide⟩ hn0 hn1 dX11_plan_37 (fun H locs hF hz6 ho6 hun => ?_)
      have hL := hL.keep hun (by rw [tpa]; rfl)
      have hE := hun.fld hL.1 (by decide) rfl (by rw [tpa]; rfl) hE
      refine lv_aload_n (pc := 38) hx hb dX11_plan_38 rfl (lv_at hl 1 rfl) ?_
      refine lv_dup (pc := 39) hx hb dX11_plan_39 rfl ?_
      refine w_get (pc := 40) X (hFX11 151 (false, 11, 12, true, 0) rfl) hE dX11_plan_40 ?_
      refine lv_iconst (v := 1) (pc := 43) hx hb dX11_plan_43 (by decide) ?_
      refine lv_iadd (pc := 44) hx hb dX11_plan_44 ?_
      have hv9 : avi g (fun _ => 0) (vi 0 12) (.int (n0 + 1)) := ⟨rfl, by rw [i32_1 hn0 (by omega)]; show (0 : Int) ≤ _; omega, by rw [i32_1 hn0 (by omega)]; show _ ≤ (12 : Int); omega⟩
      refine f_put (pc := 45) X hF (hFX11 151 (false, 11, 12, true, 0) rfl) (b := vi 0 12) (by rw [hL.1]; decide) ((congrArg TS0.1 hL.1).trans rfl) rfl rfl (avi_i2 hv9) rfl rfl (by rw [hL.1]; rfl) dX11_plan_45 (fun H locs hF hz6 ho6 hun hE => ?_)
      have hL := hL.keep hun (by rw [hL.1]; rfl)
      refine lv_aload_n (pc := 48) hx hb dX11_plan_48 rfl (lv_at hl 1 rfl) ?_
      refine w_get (pc := 49) X (hFX11 151 (false, 11, 12, true, 0) rfl) hE dX11_plan_49 ?_
      refine lv_iconst (v := 1) (pc := 52) hx hb dX11_plan_52 (by decide) ?_
      refine lv_isub (pc := 53) hx hb dX11_plan_53 ?_
      exact g_i X hQ hr hF hL ⟨Nat.le_of_ble_eq_true rfl, Nat.le_of_ble_eq_true rfl⟩ dX11_plan_54
    · refine lv_iconst (v := (-1)) (pc := 19) hx hb dX11_plan_19 (by decide) ?_
      exact g_i X hQ hr hF hL ⟨Nat.le_of_ble_eq_true rfl, Nat.le_of_ble_eq_true rfl⟩ dX11_plan_20
  · refine lv_astore_nN (lv' := [(2, .null), (0, .ref x0), (1, .int p0)]) (pc := 5) hx hb dX11_plan_5 rfl hl (by decide) rfl (fun ls hl => ?_)
    refine lv_aload_nN (pc := 6) hx hb dX11_plan_6 rfl (lv_at hl 0 rfl) ?_
    refine lv_ifnullN (tgt := 19) (pc := 7) hx hb dX11_plan_7 rfl ?_
    refine lv_iconst (v := (-1)) (pc := 19) hx hb dX11_plan_19 (by decide) ?_
    exact g_i X hQ hr hF hL ⟨Nat.le_of_ble_eq_true rfl, Nat.le_of_ble_eq_true rfl⟩ dX11_plan_20

theorem dX11_valleyAt_16 : decode cX11_valleyAt 16 = .ok (.aload_n 0, 1) := by decide +kernel
theorem dX11_valleyAt_17 : decode cX11_valleyAt 17 = .ok (.getfield 18, 3) := by decide +kernel
theorem dX11_valleyAt_20 : decode cX11_valleyAt 20 = .ok (.iload_n 1, 1) := by decide +kernel
theorem dX11_valleyAt_21 : decode cX11_valleyAt 21 = .ok (.aaload, 1) := by decide +kernel
def tmod (x : Int32) : Int32 := x - x / 4 * 4
set_option maxHeartbeats 4000000 in
set_option maxRecDepth 100000 in
theorem C_X11_valleyAt1 (l : Launch) (g : GG) (h0 : Nat) (a0 : Nat) (a1 : Nat) (a2 : Nat) (a3 : Nat) (a4 : Nat) (a5 : Nat) (a6 : Nat) (a7 : Nat) (a8 : Nat) (a9 : Nat) (a10 : Nat) (nv : Nat) (np : Nat) (cc : Int32) (fA : Nat → Option Nat) (i : Nat) (v : Nat) (hi : i < nv) (hn : nv ≤ 10) (hA : fA i = some v) : MetQ l g yX11_valleyAt cX11_valleyAt 2 (some (.object "NoonValley$Valley")) 0 0 0 [.ref h0, .int (nI i)] [(h0, .inr (11, [.ref a0, .ref a1, .ref a2, .ref a3, .ref a4, .ref a5, .ref a6, .ref a7, .ref a8, .ref a9, .ref a10, .int (nI nv), .int (nI np), .int cc])), (a1, .inl (g.2.1 4, 10, .inr (.inr (.inr (.inr fA)))))] (fun r u => r = some v ∧ u = [(h0, .inr (11, [.ref a0, .ref a1, .ref a2, .ref a3, .ref a4, .ref a5, .ref a6, .ref a7, .ref a8, .ref a9, .ref a10, .int (nI nv), .int (nI np), .int cc])), (a1, .inl (g.2.1 4, 10, .inr (.inr (.inr (.inr fA)))))]) := by
  refine MetQ.of (own := RX11) rfl (by decide) (Nat.le_of_ble_eq_true rfl) ?_
  intro p e s m below meth c A ls args Q hQ X hr hin hW hl
  have hx := X.1
  have hb := X.2.1
  have hl : lv_has ls 2 [(0, .ref h0), (1, .int (nI i))] := hl
  refine lv_iload_n (pc := 0) hx hb dX11_valleyAt_0 rfl (lv_at hl 1 rfl) ?_
  refine lv_if_lt (tgt := 12) (pc := 1) hx hb dX11_valleyAt_1 rfl (fun c1 => absurd c1 (nI_nn (by omega))) (fun c1 => ?_)
  refine lv_iload_n (pc := 4) hx hb dX11_valleyAt_4 rfl (lv_at hl 1 rfl) ?_
  refine lv_aload_n (pc := 5) hx hb dX11_valleyAt_5 rfl (lv_at hl 0 rfl) ?_
  refine r_get X hW 0 ciX11 11 rfl (by decide) m_364 rfl rfl dX11_valleyAt_6 ?_
  refine lv_icmp_lt (tgt := 16) (pc := 9) hx hb dX11_valleyAt_9 rfl (fun c2 => ?_) (fun c2 => absurd ((nI_ltI (by omega) (by omega)).mpr hi) c2)
  refine lv_aload_n (pc := 16) hx hb dX11_valleyAt_16 rfl (lv_at hl 0 rfl) ?_
  refine r_get X hW 0 ciX11 1 rfl (by decide) m_354 rfl rfl dX11_valleyAt_17 ?_
  refine lv_iload_n (pc := 20) hx hb dX11_valleyAt_20 rfl (lv_at hl 1 rfl) ?_
  refine va_aldq (pc := 21) hx hb X.2.2.2.2.2.1.1 hW.1 1 4 rfl rfl (vp_in_nI (by omega) (by decide)) dX11_valleyAt_21 ?_
  rw [show fA (nI i).toNatClampNeg = some v from (by rw [nI_clamp (by omega)]; exact hA)]
  exact e_q X hQ hr (Or.inl ⟨_, rfl⟩) hW (u := [(h0, .inr (11, [.ref a0, .ref a1, .ref a2, .ref a3, .ref a4, .ref a5, .ref a6, .ref a7, .ref a8, .ref a9, .ref a10, .int (nI nv), .int (nI np), .int cc])), (a1, .inl (g.2.1 4, 10, .inr (.inr (.inr (.inr fA)))))]) (some v) rfl [0, 1] rfl rfl (⟨rfl, rfl⟩) ⟨Nat.le_of_ble_eq_true rfl, Nat.le_of_ble_eq_true rfl⟩ dX11_valleyAt_22

set_option maxHeartbeats 4000000 in
set_option maxRecDepth 100000 in
theorem C_X11_valleyAt0 (l : Launch) (g : GG) (h0 : Nat) (a0 : Nat) (a1 : Nat) (a2 : Nat) (a3 : Nat) (a4 : Nat) (a5 : Nat) (a6 : Nat) (a7 : Nat) (a8 : Nat) (a9 : Nat) (a10 : Nat) (nv : Nat) (np : Nat) (cc : Int32) (fA : Nat → Option Nat) (x : Int32) (hbad : x < 0 ∨ nI nv ≤ x) : MetQ l g yX11_valleyAt cX11_valleyAt 2 (some (.object "NoonValley$Valley")) 0 0 0 [.ref h0, .int x] [(h0, .inr (11, [.ref a0, .ref a1, .ref a2, .ref a3, .ref a4, .ref a5, .ref a6, .ref a7, .ref a8, .ref a9, .ref a10, .int (nI nv), .int (nI np), .int cc])), (a1, .inl (g.2.1 4, 10, .inr (.inr (.inr (.inr fA)))))] (fun r u => r = none ∧ u = [(h0, .inr (11, [.ref a0, .ref a1, .ref a2, .ref a3, .ref a4, .ref a5, .ref a6, .ref a7, .ref a8, .ref a9, .ref a10, .int (nI nv), .int (nI np), .int cc])), (a1, .inl (g.2.1 4, 10, .inr (.inr (.inr (.inr fA)))))]) := by
  refine MetQ.of (own := RX11) rfl (by decide) (Nat.le_of_ble_eq_true rfl) ?_
  intro p e s m below meth c A ls args Q hQ X hr hin hW hl
  have hx := X.1
  have hb := X.2.1
  have hl : lv_has ls 2 [(0, .ref h0), (1, .int x)] := hl
  refine lv_iload_n (pc := 0) hx hb dX11_valleyAt_0 rfl (lv_at hl 1 rfl) ?_
  refine lv_if_lt (tgt := 12) (pc := 1) hx hb dX11_valleyAt_1 rfl (fun c1 => ?_) (fun c1 => ?_)
  · refine lv_null (pc := 12) hx hb dX11_valleyAt_12 ?_
    refine lv_goto (tgt := 22) (pc := 13) hx hb dX11_valleyAt_13 rfl ?_
    exact e_q X hQ hr (Or.inl ⟨_, rfl⟩) hW (u := [(h0, .inr (11, [.ref a0, .ref a1, .ref a2, .ref a3, .ref a4, .ref a5, .ref a6, .ref a7, .ref a8, .ref a9, .ref a10, .int (nI nv), .int (nI np), .int cc])), (a1, .inl (g.2.1 4, 10, .inr (.inr (.inr (.inr fA)))))]) none rfl [0, 1] rfl rfl (⟨rfl, rfl⟩) ⟨Nat.le_of_ble_eq_true rfl, Nat.le_of_ble_eq_true rfl⟩ dX11_valleyAt_22
  · have b1_ := c1
    refine lv_iload_n (pc := 4) hx hb dX11_valleyAt_4 rfl (lv_at hl 1 rfl) ?_
    refine lv_aload_n (pc := 5) hx hb dX11_valleyAt_5 rfl (lv_at hl 0 rfl) ?_
    refine r_get X hW 0 ciX11 11 rfl (by decide) m_364 rfl rfl dX11_valleyAt_6 ?_
    refine lv_icmp_lt (tgt := 16) (pc := 9) hx hb dX11_valleyAt_9 rfl (fun c2 => ?_) (fun c2 => ?_)
    · exact hbad.elim (fun q => absurd q b1_) (fun q => absurd c2 (Int32.not_lt.mpr q))
    · refine lv_null (pc := 12) hx hb dX11_valleyAt_12 ?_
      refine lv_goto (tgt := 22) (pc := 13) hx hb dX11_valleyAt_13 rfl ?_
      exact e_q X hQ hr (Or.inl ⟨_, rfl⟩) hW (u := [(h0, .inr (11, [.ref a0, .ref a1, .ref a2, .ref a3, .ref a4, .ref a5, .ref a6, .ref a7, .ref a8, .ref a9, .ref a10, .int (nI nv), .int (nI np), .int cc])), (a1, .inl (g.2.1 4, 10, .inr (.inr (.inr (.inr fA)))))]) none rfl [0, 1] rfl rfl (⟨rfl, rfl⟩) ⟨Nat.le_of_ble_eq_true rfl, Nat.le_of_ble_eq_true rfl⟩ dX11_valleyAt_22

set_option maxHeartbeats 4000000 in
set_option maxRecDepth 100000 in
theorem C_X11_faultG (l : Launch) (g : GG) (h0 : Nat) (a0 : Nat) (a1 : Nat) (a2 : Nat) (a3 : Nat) (a4 : Nat) (a5 : Nat) (a6 : Nat) (a7 : Nat) (a8 : Nat) (a9 : Nat) (nv : Nat) (np : Nat) (cc : Int32) (tq : Nat) (f0 : Nat → Int32) (n0 : Nat) (pl : Int32) (v : Nat) (v3 : Nat) (v4 : Nat) (v5 : Nat) (v6 : Nat) (v7 : Nat) (v8 : Nat) (v9 : Nat) (v10 : Nat) (v11 : Nat) (v12 : Nat) (v13 : Nat) (v15 : Nat) (pe : Int32) (lc : Int32) (de : Int32) (gl : Int32) (g1 : Nat → Int32) (g2 : Nat → Int32) (g3 : Nat → Int32) (L : Nat → Int32) (hn0 : n0 ≤ 400) : MetI l g yX11_fault cX11_fault 1 (some .int) 6 0 0 [.ref h0] [(h0, .inr (11, [.ref a0, .ref a1, .ref a2, .ref a3, .ref a4, .ref a5, .ref a6, .ref a7, .ref a8, .ref a9, .ref v, .int (nI nv), .int (nI np), .int cc])), (a0, .inr (8, [.ref tq, .int (nI n0), .int pl])), (tq, .inl (g.2.1 1, 400, .inl f0)), (v, .inr (10, [.int pe, .int lc, .int de, .ref v3, .ref v4, .ref v5, .ref v6, .ref v7, .ref v8, .ref v9, .ref v10, .ref v11, .ref v12, .ref v13, .int gl, .ref v15])), (v3, .inl (g.2.1 1, 4, .inl g1)), (v4, .inl (g.2.1 1, 4, .inl g2)), (v5, .inl (g.2.1 1, 4, .inl g3)), (v9, .inl (g.2.1 1, 72, .inl L))] (fun r u => r = (rdx n0 f0 L).1 ∧ u = [(h0, .inr (11, [.ref a0, .ref a1, .ref a2, .ref a3, .ref a4, .ref a5, .ref a6, .ref a7, .ref a8, .ref a9, .ref v, .int (nI nv), .int (nI np), .int cc])), (a0, .inr (8, [.ref tq, .int (nI n0), .int (nI (rdx n0 f0 L).2.2.1)])), (tq, .inl (g.2.1 1, 400, .inl f0)), (v, .inr (10, [.int ((rdx n0 f0 L).2.1), .int (nI (rdx n0 f0 L).2.2.2.1), .int ((rdx n0 f0 L).2.2.2.2.1), .ref v3, .ref v4, .ref v5, .ref v6, .ref v7, .ref v8, .ref v9, .ref v10, .ref v11, .ref v12, .ref v13, .int gl, .ref v15])), (v3, .inl (g.2.1 1, 4, .inl ((rdx n0 f0 L).2.2.2.2.2.1))), (v4, .inl (g.2.1 1, 4, .inl ((rdx n0 f0 L).2.2.2.2.2.2.1))), (v5, .inl (g.2.1 1, 4, .inl ((rdx n0 f0 L).2.2.2.2.2.2.2.1))), (v9, .inl (g.2.1 1, 72, .inl ((rdx n0 f0 L).2.2.2.2.2.2.2.2)))]) := by
  refine MetI.of (own := RX11) rfl (by decide) (Nat.le_of_ble_eq_true rfl) ?_
  intro p e s m below meth c A ls args Q hQ X hr hin hW hl
  have hx := X.1
  have hb := X.2.1
  have hl : lv_has ls 1 [(0, .ref h0)] := hl
  refine lv_aload_n (pc := 0) hx hb dX11_fault_0 rfl (lv_at hl 0 rfl) ?_
  refine r_get X hW 0 ciX11 0 rfl (by decide) m_353 rfl rfl dX11_fault_1 ?_
  refine lv_aload_n (pc := 4) hx hb dX11_fault_4 rfl (lv_at hl 0 rfl) ?_
  refine r_get X hW 0 ciX11 10 rfl (by decide) m_363 rfl rfl dX11_fault_5 ?_
  refine c_Vi (pc := 8) (As := [.ref v]) (rest := []) (wr := [(h0, .inr (11, [.ref a0, .ref a1, .ref a2, .ref a3, .ref a4, .ref a5, .ref a6, .ref a7, .ref a8, .ref a9, .ref v, .int (nI nv), .int (nI np), .int cc]))]) X hW 1 ciX8 rfl (C_X8_readG l g a0 tq f0 n0 hn0 pl v v3 v4 v5 v6 v7 v8 v9 v10 v11 v12 v13 v15 pe lc de gl g1 g2 g3 L) vX11_90 [1, 2, 3, 4, 5, 6, 7] [0] rfl rfl rfl rfl rfl rfl hl.1 rfl (Nat.le_of_ble_eq_true rfl) ⟨Nat.le_of_ble_eq_true rfl, Nat.le_of_ble_eq_true rfl⟩ ⟨Nat.le_of_ble_eq_true rfl, Nat.le_of_ble_eq_true rfl⟩ dX11_fault_8 (fun r1 u9 H locs hq hW => ?_)
  obtain ⟨rfl, rfl⟩ := hq
  have hW : WD g A s _ _ [(h0, .inr (11, [.ref a0, .ref a1, .ref a2, .ref a3, .ref a4, .ref a5, .ref a6, .ref a7, .ref a8, .ref a9, .ref v, .int (nI nv), .int (nI np), .int cc])), (a0, .inr (8, [.ref tq, .int (nI n0), .int (nI (rdx n0 f0 L).2.2.1)])), (tq, .inl (g.2.1 1, 400, .inl f0)), (v, .inr (10, [.int ((rdx n0 f0 L).2.1), .int (nI (rdx n0 f0 L).2.2.2.1), .int ((rdx n0 f0 L).2.2.2.2.1), .ref v3, .ref v4, .ref v5, .ref v6, .ref v7, .ref v8, .ref v9, .ref v10, .ref v11, .ref v12, .ref v13, .int gl, .ref v15])), (v3, .inl (g.2.1 1, 4, .inl ((rdx n0 f0 L).2.2.2.2.2.1))), (v4, .inl (g.2.1 1, 4, .inl ((rdx n0 f0 L).2.2.2.2.2.2.1))), (v5, .inl (g.2.1 1, 4, .inl ((rdx n0 f0 L).2.2.2.2.2.2.2.1))), (v9, .inl (g.2.1 1, 72, .inl ((rdx n0 f0 L).2.2.2.2.2.2.2.2)))] := hW
  exact e_i X hQ hr hW (u := [(h0, .inr (11, [.ref a0, .ref a1, .ref a2, .ref a3, .ref a4, .ref a5, .ref a6, .ref a7, .ref a8, .ref a9, .ref v, .int (nI nv), .int (nI np), .int cc])), (a0, .inr (8, [.ref tq, .int (nI n0), .int (nI (rdx n0 f0 L).2.2.1)])), (tq, .inl (g.2.1 1, 400, .inl f0)), (v, .inr (10, [.int ((rdx n0 f0 L).2.1), .int (nI (rdx n0 f0 L).2.2.2.1), .int ((rdx n0 f0 L).2.2.2.2.1), .ref v3, .ref v4, .ref v5, .ref v6, .ref v7, .ref v8, .ref v9, .ref v10, .ref v11, .ref v12, .ref v13, .int gl, .ref v15])), (v3, .inl (g.2.1 1, 4, .inl ((rdx n0 f0 L).2.2.2.2.2.1))), (v4, .inl (g.2.1 1, 4, .inl ((rdx n0 f0 L).2.2.2.2.2.2.1))), (v5, .inl (g.2.1 1, 4, .inl ((rdx n0 f0 L).2.2.2.2.2.2.2.1))), (v9, .inl (g.2.1 1, 72, .inl ((rdx n0 f0 L).2.2.2.2.2.2.2.2)))]) [0, 1, 2, 3, 4, 5, 6, 7] rfl rfl (⟨rfl, rfl⟩) ⟨Nat.le_of_ble_eq_true rfl, Nat.le_of_ble_eq_true rfl⟩ dX11_fault_11

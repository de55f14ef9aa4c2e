/-! what is told by exact contracts -/

theorem DV2 {g : GG} {Γ : Nat → Nat} {H : Heap} {q : Nat} (hT : HT g TS0 Γ H) (hq : Γ q = 2) : ∃ (b0 : Nat) (i1 : Int32) (i2 : Int32), va_at g.1 CLS (q, .inr (8, [.ref b0, .int i1, .int i2])) H ∧ VR g Γ [vr 22, vi 0 400, vi 0 400] [.ref b0, .int i1, .int i2] ∧ Γ b0 = 22 := by
  obtain ⟨vs, hat, hv⟩ := h_obj hT (by rw [hq]; decide) ((congrArg TS0.1 hq).trans rfl)
  have hv : VR g Γ [vr 22, vi 0 400, vi 0 400] vs := hv
  have hv0 := hv
  obtain ⟨v0, s0, rfl, a0, hv⟩ := vr_cons hv
  obtain ⟨v1, s1, rfl, a1, hv⟩ := vr_cons hv
  obtain ⟨v2, s2, rfl, a2, hv⟩ := vr_cons hv
  obtain rfl := vr_nil hv
  obtain ⟨b0, rfl, t0, -⟩ := avi_ref rfl a0
  obtain ⟨i1, rfl, -⟩ := avi_int rfl a1
  obtain ⟨i2, rfl, -⟩ := avi_int rfl a2
  exact ⟨b0, i1, i2, hat, hv0, t0⟩
theorem DV13 {g : GG} {Γ : Nat → Nat} {H : Heap} {q : Nat} (hT : HT g TS0 Γ H) (hq : Γ q = 13) : ∃ (i0 : Int32) (i1 : Int32) (i2 : Int32) (b3 : Nat) (b4 : Nat) (b5 : Nat) (b6 : Nat) (b7 : Nat) (b8 : Nat) (b9 : Nat) (b10 : Nat) (b11 : Nat) (b12 : Nat) (b13 : Nat) (i14 : Int32) (b15 : Nat), va_at g.1 CLS (q, .inr (10, [.int i0, .int i1, .int i2, .ref b3, .ref b4, .ref b5, .ref b6, .ref b7, .ref b8, .ref b9, .ref b10, .ref b11, .ref b12, .ref b13, .int i14, .ref b15])) H ∧ VR g Γ [vj (-1) 7, vi 0 12, vi 0 127, vr 110, vr 111, vr 112, vr 24, vr 24, vr 24, vr 113, vr 26, vr 27, vr 28, vr 29, vj (-2) 7, vr 30] [.int i0, .int i1, .int i2, .ref b3, .ref b4, .ref b5, .ref b6, .ref b7, .ref b8, .ref b9, .ref b10, .ref b11, .ref b12, .ref b13, .int i14, .ref b15] ∧ Γ b3 = 110 ∧ Γ b4 = 111 ∧ Γ b5 = 112 ∧ Γ b6 = 24 ∧ Γ b7 = 24 ∧ Γ b8 = 24 ∧ Γ b9 = 113 ∧ Γ b10 = 26 ∧ Γ b11 = 27 ∧ Γ b12 = 28 ∧ Γ b13 = 29 ∧ Γ b15 = 30 := by
  obtain ⟨vs, hat, hv⟩ := h_obj hT (by rw [hq]; decide) ((congrArg TS0.1 hq).trans rfl)
  have hv : VR g Γ [vj (-1) 7, vi 0 12, vi 0 127, vr 110, vr 111, vr 112, vr 24, vr 24, vr 24, vr 113, vr 26, vr 27, vr 28, vr 29, vj (-2) 7, vr 30] vs := hv
  have hv0 := hv
  obtain ⟨v0, s0, rfl, a0, hv⟩ := vr_cons hv
  obtain ⟨v1, s1, rfl, a1, hv⟩ := vr_cons hv
  obtain ⟨v2, s2, rfl, a2, hv⟩ := vr_cons hv
  obtain ⟨v3, s3, rfl, a3, hv⟩ := vr_cons hv
  obtain ⟨v4, s4, rfl, a4, hv⟩ := vr_cons hv
  obtain ⟨v5, s5, rfl, a5, hv⟩ := vr_cons hv
  obtain ⟨v6, s6, rfl, a6, hv⟩ := vr_cons hv
  obtain ⟨v7, s7, rfl, a7, hv⟩ := vr_cons hv
  obtain ⟨v8, s8, rfl, a8, hv⟩ := vr_cons hv
  obtain ⟨v9, s9, rfl, a9, hv⟩ := vr_cons hv
  obtain ⟨v10, s10, rfl, a10, hv⟩ := vr_cons hv
  obtain ⟨v11, s11, rfl, a11, hv⟩ := vr_cons hv
  obtain ⟨v12, s12, rfl, a12, hv⟩ := vr_cons hv
  obtain ⟨v13, s13, rfl, a13, hv⟩ := vr_cons hv
  obtain ⟨v14, s14, rfl, a14, hv⟩ := vr_cons hv
  obtain ⟨v15, s15, rfl, a15, hv⟩ := vr_cons hv
  obtain rfl := vr_nil hv
  obtain ⟨i0, rfl, -⟩ := avi_int rfl a0
  obtain ⟨i1, rfl, -⟩ := avi_int rfl a1
  obtain ⟨i2, rfl, -⟩ := avi_int rfl a2
  obtain ⟨b3, rfl, t3, -⟩ := avi_ref rfl a3
  obtain ⟨b4, rfl, t4, -⟩ := avi_ref rfl a4
  obtain ⟨b5, rfl, t5, -⟩ := avi_ref rfl a5
  obtain ⟨b6, rfl, t6, -⟩ := avi_ref rfl a6
  obtain ⟨b7, rfl, t7, -⟩ := avi_ref rfl a7
  obtain ⟨b8, rfl, t8, -⟩ := avi_ref rfl a8
  obtain ⟨b9, rfl, t9, -⟩ := avi_ref rfl a9
  obtain ⟨b10, rfl, t10, -⟩ := avi_ref rfl a10
  obtain ⟨b11, rfl, t11, -⟩ := avi_ref rfl a11
  obtain ⟨b12, rfl, t12, -⟩ := avi_ref rfl a12
  obtain ⟨b13, rfl, t13, -⟩ := avi_ref rfl a13
  obtain ⟨i14, rfl, -⟩ := avi_int rfl a14
  obtain ⟨b15, rfl, t15, -⟩ := avi_ref rfl a15
  exact ⟨i0, i1, i2, b3, b4, b5, b6, b7, b8, b9, b10, b11, b12, b13, i14, b15, hat, hv0, t3, t4, t5, t6, t7, t8, t9, t10, t11, t12, t13, t15⟩
theorem DV3 {g : GG} {Γ : Nat → Nat} {H : Heap} {q : Nat} (hT : HT g TS0 Γ H) (hq : Γ q = 3) : ∃ (i0 : Int32) (i1 : Int32) (i2 : Int32) (b3 : Nat) (b4 : Nat) (b5 : Nat) (b6 : Nat) (b7 : Nat) (b8 : Nat) (b9 : Nat) (b10 : Nat) (b11 : Nat) (b12 : Nat) (b13 : Nat) (i14 : Int32) (b15 : Nat), va_at g.1 CLS (q, .inr (10, [.int i0, .int i1, .int i2, .ref b3, .ref b4, .ref b5, .ref b6, .ref b7, .ref b8, .ref b9, .ref b10, .ref b11, .ref b12, .ref b13, .int i14, .ref b15])) H ∧ VR g Γ [vi 0 7, vi 0 12, vi 0 127, vr 23, vr 23, vr 23, vr 24, vr 24, vr 24, vr 25, vr 26, vr 27, vr 28, vr 29, vj (-2) 7, vr 30] [.int i0, .int i1, .int i2, .ref b3, .ref b4, .ref b5, .ref b6, .ref b7, .ref b8, .ref b9, .ref b10, .ref b11, .ref b12, .ref b13, .int i14, .ref b15] ∧ Γ b3 = 23 ∧ Γ b4 = 23 ∧ Γ b5 = 23 ∧ Γ b6 = 24 ∧ Γ b7 = 24 ∧ Γ b8 = 24 ∧ Γ b9 = 25 ∧ Γ b10 = 26 ∧ Γ b11 = 27 ∧ Γ b12 = 28 ∧ Γ b13 = 29 ∧ Γ b15 = 30 := by
  obtain ⟨vs, hat, hv⟩ := h_obj hT (by rw [hq]; decide) ((congrArg TS0.1 hq).trans rfl)
  have hv : VR g Γ [vi 0 7, vi 0 12, vi 0 127, vr 23, vr 23, vr 23, vr 24, vr 24, vr 24, vr 25, vr 26, vr 27, vr 28, vr 29, vj (-2) 7, vr 30] vs := hv
  have hv0 := hv
  obtain ⟨v0, s0, rfl, a0, hv⟩ := vr_cons hv
  obtain ⟨v1, s1, rfl, a1, hv⟩ := vr_cons hv
  obtain ⟨v2, s2, rfl, a2, hv⟩ := vr_cons hv
  obtain ⟨v3, s3, rfl, a3, hv⟩ := vr_cons hv
  obtain ⟨v4, s4, rfl, a4, hv⟩ := vr_cons hv
  obtain ⟨v5, s5, rfl, a5, hv⟩ := vr_cons hv
  obtain ⟨v6, s6, rfl, a6, hv⟩ := vr_cons hv
  obtain ⟨v7, s7, rfl, a7, hv⟩ := vr_cons hv
  obtain ⟨v8, s8, rfl, a8, hv⟩ := vr_cons hv
  obtain ⟨v9, s9, rfl, a9, hv⟩ := vr_cons hv
  obtain ⟨v10, s10, rfl, a10, hv⟩ := vr_cons hv
  obtain ⟨v11, s11, rfl, a11, hv⟩ := vr_cons hv
  obtain ⟨v12, s12, rfl, a12, hv⟩ := vr_cons hv
  obtain ⟨v13, s13, rfl, a13, hv⟩ := vr_cons hv
  obtain ⟨v14, s14, rfl, a14, hv⟩ := vr_cons hv
  obtain ⟨v15, s15, rfl, a15, hv⟩ := vr_cons hv
  obtain rfl := vr_nil hv
  obtain ⟨i0, rfl, -⟩ := avi_int rfl a0
  obtain ⟨i1, rfl, -⟩ := avi_int rfl a1
  obtain ⟨i2, rfl, -⟩ := avi_int rfl a2
  obtain ⟨b3, rfl, t3, -⟩ := avi_ref rfl a3
  obtain ⟨b4, rfl, t4, -⟩ := avi_ref rfl a4
  obtain ⟨b5, rfl, t5, -⟩ := avi_ref rfl a5
  obtain ⟨b6, rfl, t6, -⟩ := avi_ref rfl a6
  obtain ⟨b7, rfl, t7, -⟩ := avi_ref rfl a7
  obtain ⟨b8, rfl, t8, -⟩ := avi_ref rfl a8
  obtain ⟨b9, rfl, t9, -⟩ := avi_ref rfl a9
  obtain ⟨b10, rfl, t10, -⟩ := avi_ref rfl a10
  obtain ⟨b11, rfl, t11, -⟩ := avi_ref rfl a11
  obtain ⟨b12, rfl, t12, -⟩ := avi_ref rfl a12
  obtain ⟨b13, rfl, t13, -⟩ := avi_ref rfl a13
  obtain ⟨i14, rfl, -⟩ := avi_int rfl a14
  obtain ⟨b15, rfl, t15, -⟩ := avi_ref rfl a15
  exact ⟨i0, i1, i2, b3, b4, b5, b6, b7, b8, b9, b10, b11, b12, b13, i14, b15, hat, hv0, t3, t4, t5, t6, t7, t8, t9, t10, t11, t12, t13, t15⟩
theorem DV9 {g : GG} {Γ : Nat → Nat} {H : Heap} {q : Nat} (hT : HT g TS0 Γ H) (hq : Γ q = 9) : ∃ (v0 : Value) (i1 : Int32) (b2 : Nat), va_at g.1 CLS (q, .inr (3, [v0, .int i1, .ref b2])) H ∧ VR g Γ [vn 3, itop, vr 48] [v0, .int i1, .ref b2] ∧ Γ b2 = 48 := by
  obtain ⟨vs, hat, hv⟩ := h_obj hT (by rw [hq]; decide) ((congrArg TS0.1 hq).trans rfl)
  have hv : VR g Γ [vn 3, itop, vr 48] vs := hv
  have hv0 := hv
  obtain ⟨v0, s0, rfl, a0, hv⟩ := vr_cons hv
  obtain ⟨v1, s1, rfl, a1, hv⟩ := vr_cons hv
  obtain ⟨v2, s2, rfl, a2, hv⟩ := vr_cons hv
  obtain rfl := vr_nil hv
  obtain ⟨i1, rfl, -⟩ := avi_int rfl a1
  obtain ⟨b2, rfl, t2, -⟩ := avi_ref rfl a2
  exact ⟨v0, i1, b2, hat, hv0, t2⟩
theorem VRat {g : GG} {Γ : Nat → Nat} {fs : List AV} {vs : List Value} {k : Nat} {a : AV} {v : Value} (h : VR g Γ fs vs) (e1 : fs[k]? = some a) (e2 : vs[k]? = some v) : avi g Γ a v := by
  obtain ⟨w, h1, h2⟩ := h.get e1
  rw [e2] at h1
  cases h1
  exact h2
theorem INV4_keep {g : GG} {Γ : Nat → Nat} {mods : List (Nat × Nat)} {H0 H1 : Heap} (h : INV4 g Γ H0) (hu : Un g TS0 Γ mods H0 H1) (gd : ∀ q ∈ [(25, 0), (3, 0), (3, 1), (3, 9)], md mods q.1 q.2 = false) : INV4 g Γ H1 := fun q hq => by
  obtain ⟨b1, b2, p, n, f, b3, b4, b5, b6, b7, b8⟩ := h q hq
  exact ⟨b1, hu.fld hq (by decide) rfl (gd (3, 9) (by decide)) b2, p, n, f, hu.fld hq (by decide) rfl (gd (3, 0) (by decide)) b3, hu.fld hq (by decide) rfl (gd (3, 1) (by decide)) b4, b5, b6, b7.kept (hu.arr b1 (by decide) rfl (gd (25, 0) (by decide))), b8⟩
theorem in6_of {r : Nat → Int32} (h : bN_ r 132 0 6) : in6 r := fun j hj => by
  obtain ⟨k, _, h2, h3⟩ := h j hj
  exact ⟨k, h2, h3⟩
theorem bd7_of {r : Nat → Int32} {n : Nat} (h : bN_ r n 0 6) : bd7 r n := fun j hj => by
  obtain ⟨k, _, h2, h3⟩ := h j hj
  exact ⟨k, h2, h3⟩
theorem of_bd7 {r : Nat → Int32} {n : Nat} (h : bd7 r n) : bN_ r n 0 6 := fun j hj => by
  obtain ⟨k, h2, h3⟩ := h j hj
  exact ⟨k, Nat.zero_le _, h2, h3⟩
theorem lb01_of {r : Nat → Int32} (h : bN_ r 12 0 1) : lb01 r := fun j hj => by
  obtain ⟨k, _, h2, h3⟩ := h j hj
  rcases (show k = 0 ∨ k = 1 by omega) with rfl | rfl
  · exact Or.inl h3
  · exact Or.inr h3
theorem of_lb01 {r : Nat → Int32} (h : lb01 r) : bN_ r 12 0 1 := fun j hj => by
  rcases h j hj with e | e
  · exact ⟨0, by omega, by omega, e⟩
  · exact ⟨1, by omega, by omega, e⟩
theorem b4_of {r : Nat → Int32} (h : b4 r) : bN_ r 4 0 127 := fun j hj => by
  obtain ⟨k, h1, h2⟩ := h j hj
  exact ⟨k, by omega, by omega, h2⟩
theorem FE_at {g : GG} {H : Heap} {q ci k : Nat} {vs : List Value} {r : vw_C} {v : Value} (h : va_at g.1 CLS (q, .inr (ci, vs)) H) (hr : CLS[ci]? = some r) (hk : k < r.2.2) (hv : vs[k]? = some v) : FE g q ci k H v := ⟨vs, r, h, hr, hk, hv⟩
theorem lsp_lo {r : Nat} {x : Int} (h : (lsp r).1 ≤ x) : (-1 : Int) ≤ x := Int.le_trans (by unfold lsp; split <;> decide) h
theorem lsp_hi {r : Nat} {x : Int} (h : x ≤ (lsp r).2) : x ≤ (24 : Int) := Int.le_trans h (by unfold lsp; split <;> decide)
noncomputable def pX8_read_h0 : SPEC := (8, [vr 2, vr 13], vj (-1) 400, [], [(2, 2), (13, 0), (13, 1), (13, 2), (110, 0), (111, 0), (112, 0), (113, 0)], [])
set_option maxHeartbeats 40000000 in
set_option maxRecDepth 100000 in
theorem SX8_read_h0 (l : Launch) (g : GG) : SM l g TS0 yX8_read cX8_read 2 (some .int) pX8_read_h0 := SM_emb fun Γ As hU hV U hT hPF => by
  obtain ⟨v1, v2, rfl, w1, w2⟩ := VR2 (show VR g Γ [vr 2, vr 13] As from hV)
  obtain ⟨h0, rfl, t_h0, -⟩ := avi_ref rfl w1
  have t_h0 : Γ h0 = 2 := t_h0
  obtain ⟨v, rfl, t_v, -⟩ := avi_ref rfl w2
  have t_v : Γ v = 13 := t_v
  obtain ⟨q, n_, pl, A_h0, hv0, t_q⟩ := DV2 hT t_h0
  obtain ⟨pe, lc, de, v3, v4, v5, v6, v7, v8, v9, v10, v11, v12, v13, gl, v15, A_v, hv1, t_v3, t_v4, t_v5, -, -, -, t_v9, -⟩ := DV13 hT t_v
  obtain ⟨n0, rfl, -, hn0⟩ := avi_nn (VRat (k := 1) hv0 rfl rfl)
  obtain ⟨f0, A_q, bf⟩ := h_ints (g := g) (k := 1) (n := 400) (a := vi 0 255) (by decide) hT (by rw [t_q]; decide) ((congrArg TS0.1 t_q).trans rfl)
  obtain ⟨g1, A_v3, bg1⟩ := h_ints (g := g) (k := 1) (n := 4) (a := vi 0 127) (by decide) hT (by rw [t_v3]; decide) ((congrArg TS0.1 t_v3).trans rfl)
  obtain ⟨g2, A_v4, bg2⟩ := h_ints (g := g) (k := 1) (n := 4) (a := vi 0 127) (by decide) hT (by rw [t_v4]; decide) ((congrArg TS0.1 t_v4).trans rfl)
  obtain ⟨g3, A_v5, bg3⟩ := h_ints (g := g) (k := 1) (n := 4) (a := vi 0 127) (by decide) hT (by rw [t_v5]; decide) ((congrArg TS0.1 t_v5).trans rfl)
  obtain ⟨L, A_v9, bL⟩ := h_ints (g := g) (k := 1) (n := 72) (a := vj (-1) 24) (by decide) hT (by rw [t_v9]; decide) ((congrArg TS0.1 t_v9).trans rfl)
  have hL : lspF L := by
    obtain ⟨L2, e1, e2⟩ := (hT.2.1 rfl).1.1 v9 (Or.inr t_v9)
    exact fun j hj => by rw [(AT_fun A_v9 e1 hj).2]; exact e2 j hj
  obtain ⟨hfx, hrx⟩ := rdx_ok (f := f0) hn0 hL
  have hP : va_P g.1 CLS [(h0, .inr (8, [.ref q, .int (nI n0), .int pl])), (q, .inl (g.2.1 1, 400, .inl f0)), (v, .inr (10, [.int pe, .int lc, .int de, .ref v3, .ref v4, .ref v5, .ref v6, .ref v7, .ref v8, .ref v9, .ref v10, .ref v11, .ref v12, .ref v13, .int gl, .ref v15])), (v3, .inl (g.2.1 1, 4, .inl g1)), (v4, .inl (g.2.1 1, 4, .inl g2)), (v5, .inl (g.2.1 1, 4, .inl g3)), (v9, .inl (g.2.1 1, 72, .inl L))] U.heap := vaP_cons A_h0 (vaP_cons A_q (vaP_cons A_v (vaP_cons A_v3 (vaP_cons A_v4 (vaP_cons A_v5 (vaP_cons A_v9 (vaP_nil)))))))
  have hD := (D_tags (tl := [2, 22, 13, 110, 111, 112, 113]) (by show [Γ h0, Γ q, Γ v, Γ v3, Γ v4, Γ v5, Γ v9] = _; rw [t_h0, t_q, t_v, t_v3, t_v4, t_v5, t_v9]) (by decide) (by decide) : va_D (fun q => Γ q ≠ 0) [(h0, .inr (8, [.ref q, .int (nI n0), .int pl])), (q, .inl (g.2.1 1, 400, .inl f0)), (v, .inr (10, [.int pe, .int lc, .int de, .ref v3, .ref v4, .ref v5, .ref v6, .ref v7, .ref v8, .ref v9, .ref v10, .ref v11, .ref v12, .ref v13, .int gl, .ref v15])), (v3, .inl (g.2.1 1, 4, .inl g1)), (v4, .inl (g.2.1 1, 4, .inl g2)), (v5, .inl (g.2.1 1, 4, .inl g3)), (v9, .inl (g.2.1 1, 72, .inl L))])
  refine ⟨_, _, MetI.room (d' := 8) (C_X8_readG l g h0 q f0 n0 hn0 pl v v3 v4 v5 v6 v7 v8 v9 v10 v11 v12 v13 v15 pe lc de gl g1 g2 g3 L) (by decide) _, hP, hD, fun a o t hQ hz => ?_⟩
  obtain ⟨⟨r, u, ho, hpost, hB⟩, hF⟩ := hQ
  obtain ⟨rfl, rfl⟩ := hpost
  have hx : avi g Γ (vj (-1) 7) (.int (rdx n0 f0 L).2.1) ∧ ∃ p, txok p (rdx n0 f0 L).2.2 := by
    rcases hrx with ⟨h1, -, h3⟩ | ⟨p, h1, h2, h3, h4⟩
    · refine ⟨?_, 0, h3⟩
      rcases h1 with h1 | h1 <;> rw [h1] <;> exact ⟨rfl, by decide, by decide⟩
    · exact ⟨by rw [h3]; exact avle_ok (a := vi 0 7) (by decide) (avi_nI (by omega) h2 (by decide)), p, h4⟩
  obtain ⟨hpx, p, x1, x2, x3, x4, x5, x6, x7, x8⟩ := hx
  have nA9 : AT g 1 72 v9 (rdx n0 f0 L).2.2.2.2.2.2.2.2 t.heap := hB.1 6 _ rfl
  exact SQ_of (v := some (.int (rdx n0 f0 L).1)) hT hP hB.1 hD hF hz ⟨⟨rfl, rfl, _, (congrArg TS0.1 t_h0).trans rfl, (OS.refl hv0).put (k := 2) rfl (avi_nI (lo := 0) (hi := 400) (by omega) x1 (by decide)) (by rw [t_h0]; decide), _, rfl, Nat.le_of_ble_eq_true rfl⟩, ⟨rfl, rfl, 1, _, _, rfl, (congrArg TS0.1 t_q).trans rfl, rfl, ⟨by decide, bf⟩, Or.inr rfl⟩, ⟨rfl, rfl, _, (congrArg TS0.1 t_v).trans rfl, (((OS.refl hv1).put (k := 0) rfl (hpx) (by rw [t_v]; decide)).put (k := 1) rfl (avi_nI (lo := 0) (hi := 12) (by omega) x2 (by decide)) (by rw [t_v]; decide)).put (k := 2) rfl (b7_av x3) (by rw [t_v]; decide), _, rfl, Nat.le_of_ble_eq_true rfl⟩, ⟨rfl, rfl, 1, _, _, rfl, (congrArg TS0.1 t_v3).trans rfl, rfl, ar_N (by decide) (by decide) (b4_of x4), Or.inl (by rw [t_v3]; decide)⟩, ⟨rfl, rfl, 1, _, _, rfl, (congrArg TS0.1 t_v4).trans rfl, rfl, ar_N (by decide) (by decide) (b4_of x5), Or.inl (by rw [t_v4]; decide)⟩, ⟨rfl, rfl, 1, _, _, rfl, (congrArg TS0.1 t_v5).trans rfl, rfl, ar_N (by decide) (by decide) (b4_of x6), Or.inl (by rw [t_v5]; decide)⟩, ⟨rfl, rfl, 1, _, _, rfl, (congrArg TS0.1 t_v9).trans rfl, rfl, ⟨by decide, fun j hj => ⟨rfl, lsp_lo (x7 j hj).1, lsp_hi (x7 j hj).2⟩⟩, Or.inl (by rw [t_v9]; decide)⟩, trivial⟩ (fun hun => INV0 ⟨fun q2 hq2 => by
    by_cases e9 : q2 = v9
    · subst e9; exact ⟨_, nA9, x7⟩
    · obtain ⟨f2, y1, y2⟩ := (hT.2.1 rfl).1.1 q2 hq2
      refine ⟨f2, y1.kept (hF.2 q2 (hT.1 q2 (by rcases hq2 with e | e <;> rw [e] <;> decide)).lt fun hA => ?_), y2⟩
      rcases hA with ⟨k2, e2, hk2⟩ | hA
      · have hd := hD.1 k2 k2 _ _ hk2 hk2 rfl
        match k2, hk2 with
        | 0, hk2 => cases hk2; first | exact e9 rfl | (rcases hq2 with e | e <;> (rw [t_h0] at e; exact absurd e (by decide)))
        | 1, hk2 => cases hk2; first | exact e9 rfl | (rcases hq2 with e | e <;> (rw [t_q] at e; exact absurd e (by decide)))
        | 2, hk2 => cases hk2; first | exact e9 rfl | (rcases hq2 with e | e <;> (rw [t_v] at e; exact absurd e (by decide)))
        | 3, hk2 => cases hk2; first | exact e9 rfl | (rcases hq2 with e | e <;> (rw [t_v3] at e; exact absurd e (by decide)))
        | 4, hk2 => cases hk2; first | exact e9 rfl | (rcases hq2 with e | e <;> (rw [t_v4] at e; exact absurd e (by decide)))
        | 5, hk2 => cases hk2; first | exact e9 rfl | (rcases hq2 with e | e <;> (rw [t_v5] at e; exact absurd e (by decide)))
        | 6, hk2 => cases hk2; first | exact e9 rfl | (rcases hq2 with e | e <;> (rw [t_v9] at e; exact absurd e (by decide)))
      · have := (hT.1 q2 (by rcases hq2 with e | e <;> rw [e] <;> decide)).lt; omega, INV4_keep (hT.2.1 rfl).1.2 hun (by decide)⟩ (INV2_keep (hT.2.1 rfl).2.1 hun (by decide)) (INV3_keep (hT.2.1 rfl).2.2 hun (by decide))) ho ⟨f400_av hfx, fun q hq => by cases hq⟩
noncomputable def pX12_readValley_h0 : SPEC := (8, [vr 60], vi 0 1, [], [(60, 3), (60, 4), (60, 5), (62, 0), (63, 0), (64, 0), (65, 0), (66, 0), (67, 0), (68, 0), (69, 0), (120, 0), (121, 0), (122, 0), (123, 0)], [])
set_option maxHeartbeats 40000000 in
set_option maxRecDepth 100000 in
theorem SX12_readValley_h0 (l : Launch) (g : GG) : SM l g TS0 yX12_readValley cX12_readValley 3 (some .boolean) pX12_readValley_h0 := SM_emb fun Γ As hU hV U hT hPF => by
  obtain ⟨v1, rfl, w1⟩ := VR1 (show VR g Γ [vr 60] As from hV)
  obtain ⟨h0, rfl, t_h0, -⟩ := avi_ref rfl w1
  have t_h0 : Γ h0 = 60 := t_h0
  obtain ⟨vs, A_h0, hv⟩ := h_obj hT (by rw [t_h0]; decide) ((congrArg TS0.1 t_h0).trans rfl)
  have hv : VR g Γ [vi 0 1, vr 61, vi 0 400, vi 0 400, vj (-1) 400, vj (-99) 200, vr 62, vr 63, vr 64, vr 65, vr 120, vr 121, vr 66, vr 122, vr 67, vr 123, vr 68, vr 69, vi 0 10, vj (-1) 6, vj (-1) 6, vr 70, vr 71, vr 72, vr 73, vr 74, vr 75, vi 0 12, vr 76, vr 77, vr 78, vr 79, vr 80, vr 124, vr 81, vr 82, vr 125, vi 0 9, vi 0 127, vi 0 127, itop, itop, itop, vi 0 1, vi 0 127, vi 0 127, vr 83, vr 84, vr 85, vr 86, vr 126, vr 87, vr 88, vr 89, vr 90, vr 91, vr 92, vr 93, vr 94, vr 95, vr 127, vr 96, vr 97, vr 128] vs := hv
  have hv0 := hv
  obtain ⟨v0, s0, rfl, a0, hv⟩ := vr_cons hv
  obtain ⟨v1, s1, rfl, a1, hv⟩ := vr_cons hv
  obtain ⟨v2, s2, rfl, a2, hv⟩ := vr_cons hv
  obtain ⟨v3, s3, rfl, a3, hv⟩ := vr_cons hv
  obtain ⟨v4, s4, rfl, a4, hv⟩ := vr_cons hv
  obtain ⟨v5, s5, rfl, a5, hv⟩ := vr_cons hv
  obtain ⟨v6, s6, rfl, a6, hv⟩ := vr_cons hv
  obtain ⟨v7, s7, rfl, a7, hv⟩ := vr_cons hv
  obtain ⟨v8, s8, rfl, a8, hv⟩ := vr_cons hv
  obtain ⟨v9, s9, rfl, a9, hv⟩ := vr_cons hv
  obtain ⟨v10, s10, rfl, a10, hv⟩ := vr_cons hv
  obtain ⟨v11, s11, rfl, a11, hv⟩ := vr_cons hv
  obtain ⟨v12, s12, rfl, a12, hv⟩ := vr_cons hv
  obtain ⟨v13, s13, rfl, a13, hv⟩ := vr_cons hv
  obtain ⟨v14, s14, rfl, a14, hv⟩ := vr_cons hv
  obtain ⟨v15, s15, rfl, a15, hv⟩ := vr_cons hv
  obtain ⟨v16, s16, rfl, a16, hv⟩ := vr_cons hv
  obtain ⟨v17, s17, rfl, a17, hv⟩ := vr_cons hv
  obtain ⟨v18, s18, rfl, a18, hv⟩ := vr_cons hv
  obtain ⟨v19, s19, rfl, a19, hv⟩ := vr_cons hv
  obtain ⟨v20, s20, rfl, a20, hv⟩ := vr_cons hv
  obtain ⟨v21, s21, rfl, a21, hv⟩ := vr_cons hv
  obtain ⟨v22, s22, rfl, a22, hv⟩ := vr_cons hv
  obtain ⟨v23, s23, rfl, a23, hv⟩ := vr_cons hv
  obtain ⟨v24, s24, rfl, a24, hv⟩ := vr_cons hv
  obtain ⟨v25, s25, rfl, a25, hv⟩ := vr_cons hv
  obtain ⟨v26, s26, rfl, a26, hv⟩ := vr_cons hv
  obtain ⟨v27, s27, rfl, a27, hv⟩ := vr_cons hv
  obtain ⟨v28, s28, rfl, a28, hv⟩ := vr_cons hv
  obtain ⟨v29, s29, rfl, a29, hv⟩ := vr_cons hv
  obtain ⟨v30, s30, rfl, a30, hv⟩ := vr_cons hv
  obtain ⟨v31, s31, rfl, a31, hv⟩ := vr_cons hv
  obtain ⟨v32, s32, rfl, a32, hv⟩ := vr_cons hv
  obtain ⟨v33, s33, rfl, a33, hv⟩ := vr_cons hv
  obtain ⟨v34, s34, rfl, a34, hv⟩ := vr_cons hv
  obtain ⟨v35, s35, rfl, a35, hv⟩ := vr_cons hv
  obtain ⟨v36, s36, rfl, a36, hv⟩ := vr_cons hv
  obtain ⟨v37, s37, rfl, a37, hv⟩ := vr_cons hv
  obtain ⟨v38, s38, rfl, a38, hv⟩ := vr_cons hv
  obtain ⟨v39, s39, rfl, a39, hv⟩ := vr_cons hv
  obtain ⟨v40, s40, rfl, a40, hv⟩ := vr_cons hv
  obtain ⟨v41, s41, rfl, a41, hv⟩ := vr_cons hv
  obtain ⟨v42, s42, rfl, a42, hv⟩ := vr_cons hv
  obtain ⟨v43, s43, rfl, a43, hv⟩ := vr_cons hv
  obtain ⟨v44, s44, rfl, a44, hv⟩ := vr_cons hv
  obtain ⟨v45, s45, rfl, a45, hv⟩ := vr_cons hv
  obtain ⟨v46, s46, rfl, a46, hv⟩ := vr_cons hv
  obtain ⟨v47, s47, rfl, a47, hv⟩ := vr_cons hv
  obtain ⟨v48, s48, rfl, a48, hv⟩ := vr_cons hv
  obtain ⟨v49, s49, rfl, a49, hv⟩ := vr_cons hv
  obtain ⟨v50, s50, rfl, a50, hv⟩ := vr_cons hv
  obtain ⟨v51, s51, rfl, a51, hv⟩ := vr_cons hv
  obtain ⟨v52, s52, rfl, a52, hv⟩ := vr_cons hv
  obtain ⟨v53, s53, rfl, a53, hv⟩ := vr_cons hv
  obtain ⟨v54, s54, rfl, a54, hv⟩ := vr_cons hv
  obtain ⟨v55, s55, rfl, a55, hv⟩ := vr_cons hv
  obtain ⟨v56, s56, rfl, a56, hv⟩ := vr_cons hv
  obtain ⟨v57, s57, rfl, a57, hv⟩ := vr_cons hv
  obtain ⟨v58, s58, rfl, a58, hv⟩ := vr_cons hv
  obtain ⟨v59, s59, rfl, a59, hv⟩ := vr_cons hv
  obtain ⟨v60, s60, rfl, a60, hv⟩ := vr_cons hv
  obtain ⟨v61, s61, rfl, a61, hv⟩ := vr_cons hv
  obtain ⟨v62, s62, rfl, a62, hv⟩ := vr_cons hv
  obtain ⟨v63, s63, rfl, a63, hv⟩ := vr_cons hv
  obtain rfl := vr_nil hv
  obtain ⟨i0, rfl, -⟩ := avi_int rfl a0
  obtain ⟨b1, rfl, t_b1, -⟩ := avi_ref rfl a1
  obtain ⟨i2, rfl, -⟩ := avi_int rfl a2
  obtain ⟨i3, rfl, -⟩ := avi_int rfl a3
  obtain ⟨i4, rfl, -⟩ := avi_int rfl a4
  obtain ⟨i5, rfl, -⟩ := avi_int rfl a5
  obtain ⟨b6, rfl, t_b6, -⟩ := avi_ref rfl a6
  obtain ⟨b7, rfl, t_b7, -⟩ := avi_ref rfl a7
  obtain ⟨b8, rfl, t_b8, -⟩ := avi_ref rfl a8
  obtain ⟨b9, rfl, t_b9, -⟩ := avi_ref rfl a9
  obtain ⟨b10, rfl, t_b10, -⟩ := avi_ref rfl a10
  obtain ⟨b11, rfl, t_b11, -⟩ := avi_ref rfl a11
  obtain ⟨b12, rfl, t_b12, -⟩ := avi_ref rfl a12
  obtain ⟨b13, rfl, t_b13, -⟩ := avi_ref rfl a13
  obtain ⟨b14, rfl, t_b14, -⟩ := avi_ref rfl a14
  obtain ⟨b15, rfl, t_b15, -⟩ := avi_ref rfl a15
  obtain ⟨b16, rfl, t_b16, -⟩ := avi_ref rfl a16
  obtain ⟨b17, rfl, t_b17, -⟩ := avi_ref rfl a17
  obtain ⟨i18, rfl, -⟩ := avi_int rfl a18
  obtain ⟨i19, rfl, -⟩ := avi_int rfl a19
  obtain ⟨i20, rfl, -⟩ := avi_int rfl a20
  obtain ⟨b21, rfl, t_b21, -⟩ := avi_ref rfl a21
  obtain ⟨b22, rfl, t_b22, -⟩ := avi_ref rfl a22
  obtain ⟨b23, rfl, t_b23, -⟩ := avi_ref rfl a23
  obtain ⟨b24, rfl, t_b24, -⟩ := avi_ref rfl a24
  obtain ⟨b25, rfl, t_b25, -⟩ := avi_ref rfl a25
  obtain ⟨b26, rfl, t_b26, -⟩ := avi_ref rfl a26
  obtain ⟨i27, rfl, -⟩ := avi_int rfl a27
  obtain ⟨b28, rfl, t_b28, -⟩ := avi_ref rfl a28
  obtain ⟨b29, rfl, t_b29, -⟩ := avi_ref rfl a29
  obtain ⟨b30, rfl, t_b30, -⟩ := avi_ref rfl a30
  obtain ⟨b31, rfl, t_b31, -⟩ := avi_ref rfl a31
  obtain ⟨b32, rfl, t_b32, -⟩ := avi_ref rfl a32
  obtain ⟨b33, rfl, t_b33, -⟩ := avi_ref rfl a33
  obtain ⟨b34, rfl, t_b34, -⟩ := avi_ref rfl a34
  obtain ⟨b35, rfl, t_b35, -⟩ := avi_ref rfl a35
  obtain ⟨b36, rfl, t_b36, -⟩ := avi_ref rfl a36
  obtain ⟨i37, rfl, -⟩ := avi_int rfl a37
  obtain ⟨i38, rfl, -⟩ := avi_int rfl a38
  obtain ⟨i39, rfl, -⟩ := avi_int rfl a39
  obtain ⟨i40, rfl, -⟩ := avi_int rfl a40
  obtain ⟨i41, rfl, -⟩ := avi_int rfl a41
  obtain ⟨i42, rfl, -⟩ := avi_int rfl a42
  obtain ⟨i43, rfl, -⟩ := avi_int rfl a43
  obtain ⟨i44, rfl, -⟩ := avi_int rfl a44
  obtain ⟨i45, rfl, -⟩ := avi_int rfl a45
  obtain ⟨b46, rfl, t_b46, -⟩ := avi_ref rfl a46
  obtain ⟨b47, rfl, t_b47, -⟩ := avi_ref rfl a47
  obtain ⟨b48, rfl, t_b48, -⟩ := avi_ref rfl a48
  obtain ⟨b49, rfl, t_b49, -⟩ := avi_ref rfl a49
  obtain ⟨b50, rfl, t_b50, -⟩ := avi_ref rfl a50
  obtain ⟨b51, rfl, t_b51, -⟩ := avi_ref rfl a51
  obtain ⟨b52, rfl, t_b52, -⟩ := avi_ref rfl a52
  obtain ⟨b53, rfl, t_b53, -⟩ := avi_ref rfl a53
  obtain ⟨b54, rfl, t_b54, -⟩ := avi_ref rfl a54
  obtain ⟨b55, rfl, t_b55, -⟩ := avi_ref rfl a55
  obtain ⟨b56, rfl, t_b56, -⟩ := avi_ref rfl a56
  obtain ⟨b57, rfl, t_b57, -⟩ := avi_ref rfl a57
  obtain ⟨b58, rfl, t_b58, -⟩ := avi_ref rfl a58
  obtain ⟨b59, rfl, t_b59, -⟩ := avi_ref rfl a59
  obtain ⟨b60, rfl, t_b60, -⟩ := avi_ref rfl a60
  obtain ⟨b61, rfl, t_b61, -⟩ := avi_ref rfl a61
  obtain ⟨b62, rfl, t_b62, -⟩ := avi_ref rfl a62
  obtain ⟨b63, rfl, t_b63, -⟩ := avi_ref rfl a63
  have t_b1 : Γ b1 = 61 := t_b1
  have t_b6 : Γ b6 = 62 := t_b6
  have t_b7 : Γ b7 = 63 := t_b7
  have t_b8 : Γ b8 = 64 := t_b8
  have t_b9 : Γ b9 = 65 := t_b9
  have t_b10 : Γ b10 = 120 := t_b10
  have t_b11 : Γ b11 = 121 := t_b11
  have t_b12 : Γ b12 = 66 := t_b12
  have t_b13 : Γ b13 = 122 := t_b13
  have t_b14 : Γ b14 = 67 := t_b14
  have t_b15 : Γ b15 = 123 := t_b15
  have t_b16 : Γ b16 = 68 := t_b16
  have t_b17 : Γ b17 = 69 := t_b17
  obtain ⟨n0, rfl, -, hn0⟩ := avi_nn (VRat (k := 2) hv0 rfl rfl)
  obtain ⟨vv, rfl, -, hvv⟩ := avi_nn (VRat (k := 18) hv0 rfl rfl)
  obtain ⟨f0, A_b1, bf⟩ := h_ints (g := g) (k := 0) (n := 400) (a := vj (-128) 127) (by decide) hT (by rw [t_b1]; decide) ((congrArg TS0.1 t_b1).trans rfl)
  obtain ⟨P, A_b6, bP⟩ := h_ints (g := g) (k := 1) (n := 11) (a := vi 0 7) (by decide) hT (by rw [t_b6]; decide) ((congrArg TS0.1 t_b6).trans rfl)
  obtain ⟨r0, A_b7, c0⟩ := h_ints (g := g) (k := 1) (n := 11) (a := vi 0 12) (by decide) hT (by rw [t_b7]; decide) ((congrArg TS0.1 t_b7).trans rfl)
  obtain ⟨r1, A_b8, c1⟩ := h_ints (g := g) (k := 1) (n := 11) (a := vi 0 127) (by decide) hT (by rw [t_b8]; decide) ((congrArg TS0.1 t_b8).trans rfl)
  obtain ⟨r2, A_b9, c2⟩ := h_ints (g := g) (k := 1) (n := 44) (a := vi 0 127) (by decide) hT (by rw [t_b9]; decide) ((congrArg TS0.1 t_b9).trans rfl)
  obtain ⟨r3, A_b10, c3⟩ := h_ints (g := g) (k := 1) (n := 44) (a := vi 0 127) (by decide) hT (by rw [t_b10]; decide) ((congrArg TS0.1 t_b10).trans rfl)
  obtain ⟨r4, A_b11, c4⟩ := h_ints (g := g) (k := 1) (n := 44) (a := vi 0 127) (by decide) hT (by rw [t_b11]; decide) ((congrArg TS0.1 t_b11).trans rfl)
  obtain ⟨r5, A_b12, c5⟩ := h_ints (g := g) (k := 1) (n := 132) (a := vi 0 6) (by decide) hT (by rw [t_b12]; decide) ((congrArg TS0.1 t_b12).trans rfl)
  obtain ⟨r6, A_b13, c6⟩ := h_ints (g := g) (k := 1) (n := 132) (a := vi 0 6) (by decide) hT (by rw [t_b13]; decide) ((congrArg TS0.1 t_b13).trans rfl)
  obtain ⟨r7, A_b14, c7⟩ := h_ints (g := g) (k := 1) (n := 132) (a := vi 0 24) (by decide) hT (by rw [t_b14]; decide) ((congrArg TS0.1 t_b14).trans rfl)
  obtain ⟨r8, A_b15, c8⟩ := h_ints (g := g) (k := 1) (n := 132) (a := vi 0 24) (by decide) hT (by rw [t_b15]; decide) ((congrArg TS0.1 t_b15).trans rfl)
  obtain ⟨r9, A_b16, c9⟩ := h_ints (g := g) (k := 1) (n := 132) (a := vj (-1) 24) (by decide) hT (by rw [t_b16]; decide) ((congrArg TS0.1 t_b16).trans rfl)
  obtain ⟨r10, A_b17, c10⟩ := h_ints (g := g) (k := 3) (n := 132) (a := vi 0 1) (by decide) hT (by rw [t_b17]; decide) ((congrArg TS0.1 t_b17).trans rfl)
  have hS : rxok (0, i5, r0, r1, r2, r3, r4, r5, r6, r7, r8, r9, r10) := ⟨Nat.zero_le _, ⟨(VRat (k := 5) hv0 rfl rfl).2.1, (VRat (k := 5) hv0 rfl rfl).2.2⟩, bN_of c0, bN_of c1, bN_of c2, bN_of c3, bN_of c4, bN_of c5, bN_of c6, bN_of c7, bN_of c8, fun j hj => (c9 j hj).2, bN_of c10⟩
  obtain ⟨hR, hP9, hf9, hr9⟩ := rdv_ok (f := ub f0) (v := vv) (S := (0, i5, r0, r1, r2, r3, r4, r5, r6, r7, r8, r9, r10)) hn0 hvv (bN_of bP) hS
  have hP : va_P g.1 CLS [(h0, .inr (12, [.int i0, .ref b1, .int (nI n0), .int i3, .int i4, .int i5, .ref b6, .ref b7, .ref b8, .ref b9, .ref b10, .ref b11, .ref b12, .ref b13, .ref b14, .ref b15, .ref b16, .ref b17, .int (nI vv), .int i19, .int i20, .ref b21, .ref b22, .ref b23, .ref b24, .ref b25, .ref b26, .int i27, .ref b28, .ref b29, .ref b30, .ref b31, .ref b32, .ref b33, .ref b34, .ref b35, .ref b36, .int i37, .int i38, .int i39, .int i40, .int i41, .int i42, .int i43, .int i44, .int i45, .ref b46, .ref b47, .ref b48, .ref b49, .ref b50, .ref b51, .ref b52, .ref b53, .ref b54, .ref b55, .ref b56, .ref b57, .ref b58, .ref b59, .ref b60, .ref b61, .ref b62, .ref b63])), (b1, .inl (g.2.1 0, 400, .inl f0)), (b6, .inl (g.2.1 1, 11, .inl P)), (b7, .inl (g.2.1 1, 11, .inl r0)), (b8, .inl (g.2.1 1, 11, .inl r1)), (b9, .inl (g.2.1 1, 44, .inl r2)), (b10, .inl (g.2.1 1, 44, .inl r3)), (b11, .inl (g.2.1 1, 44, .inl r4)), (b12, .inl (g.2.1 1, 132, .inl r5)), (b13, .inl (g.2.1 1, 132, .inl r6)), (b14, .inl (g.2.1 1, 132, .inl r7)), (b15, .inl (g.2.1 1, 132, .inl r8)), (b16, .inl (g.2.1 1, 132, .inl r9)), (b17, .inl (g.2.1 3, 132, .inl r10))] U.heap := vaP_cons A_h0 (vaP_cons A_b1 (vaP_cons A_b6 (vaP_cons A_b7 (vaP_cons A_b8 (vaP_cons A_b9 (vaP_cons A_b10 (vaP_cons A_b11 (vaP_cons A_b12 (vaP_cons A_b13 (vaP_cons A_b14 (vaP_cons A_b15 (vaP_cons A_b16 (vaP_cons A_b17 (vaP_nil))))))))))))))
  have hD := (D_tags (tl := [60, 61, 62, 63, 64, 65, 120, 121, 66, 122, 67, 123, 68, 69]) (by show [Γ h0, Γ b1, Γ b6, Γ b7, Γ b8, Γ b9, Γ b10, Γ b11, Γ b12, Γ b13, Γ b14, Γ b15, Γ b16, Γ b17] = _; rw [t_h0, t_b1, t_b6, t_b7, t_b8, t_b9, t_b10, t_b11, t_b12, t_b13, t_b14, t_b15, t_b16, t_b17]) (by decide) (by decide) : va_D (fun q => Γ q ≠ 0) [(h0, .inr (12, [.int i0, .ref b1, .int (nI n0), .int i3, .int i4, .int i5, .ref b6, .ref b7, .ref b8, .ref b9, .ref b10, .ref b11, .ref b12, .ref b13, .ref b14, .ref b15, .ref b16, .ref b17, .int (nI vv), .int i19, .int i20, .ref b21, .ref b22, .ref b23, .ref b24, .ref b25, .ref b26, .int i27, .ref b28, .ref b29, .ref b30, .ref b31, .ref b32, .ref b33, .ref b34, .ref b35, .ref b36, .int i37, .int i38, .int i39, .int i40, .int i41, .int i42, .int i43, .int i44, .int i45, .ref b46, .ref b47, .ref b48, .ref b49, .ref b50, .ref b51, .ref b52, .ref b53, .ref b54, .ref b55, .ref b56, .ref b57, .ref b58, .ref b59, .ref b60, .ref b61, .ref b62, .ref b63])), (b1, .inl (g.2.1 0, 400, .inl f0)), (b6, .inl (g.2.1 1, 11, .inl P)), (b7, .inl (g.2.1 1, 11, .inl r0)), (b8, .inl (g.2.1 1, 11, .inl r1)), (b9, .inl (g.2.1 1, 44, .inl r2)), (b10, .inl (g.2.1 1, 44, .inl r3)), (b11, .inl (g.2.1 1, 44, .inl r4)), (b12, .inl (g.2.1 1, 132, .inl r5)), (b13, .inl (g.2.1 1, 132, .inl r6)), (b14, .inl (g.2.1 1, 132, .inl r7)), (b15, .inl (g.2.1 1, 132, .inl r8)), (b16, .inl (g.2.1 1, 132, .inl r9)), (b17, .inl (g.2.1 3, 132, .inl r10))])
  refine ⟨_, _, MetI.room (d' := 8) (C_X12_readValleyG l g h0 b1 b6 b7 b8 b9 b10 b11 b12 b13 b14 b15 b16 b17 b21 b22 b23 b24 b25 b26 b28 b29 b30 b31 b32 b33 b34 b35 b36 b46 b47 b48 b49 b50 b51 b52 b53 b54 b55 b56 b57 b58 b59 b60 b61 b62 b63 i0 i4 i19 i20 i27 i37 i38 i39 i40 i41 i42 i43 i44 i45 f0 n0 hn0 i3 P (0, i5, r0, r1, r2, r3, r4, r5, r6, r7, r8, r9, r10) vv hvv) (by decide) _, hP, hD, fun a o t hQ hz => ?_⟩
  obtain ⟨⟨r, u, ho, hpost, hB⟩, hF⟩ := hQ
  obtain ⟨rfl, rfl⟩ := hpost
  obtain ⟨x0, x1, x2, x3, x4, x5, x6, x7, x8, x9, x10, x11, x12⟩ := hR
  exact SQ_of (v := some (.int (rdv n0 (ub f0) vv P (0, i5, r0, r1, r2, r3, r4, r5, r6, r7, r8, r9, r10)).1)) hT hP hB.1 hD hF hz ⟨⟨rfl, rfl, _, (congrArg TS0.1 t_h0).trans rfl, (((OS.refl hv0).put (k := 3) rfl (avi_nI (lo := 0) (hi := 400) (by omega) x0 (by decide)) (by rw [t_h0]; decide)).put (k := 4) rfl (f400_av hf9) (by rw [t_h0]; decide)).put (k := 5) rfl (av_lh x1.1 x1.2) (by rw [t_h0]; decide), _, rfl, Nat.le_of_ble_eq_true rfl⟩, ⟨rfl, rfl, 0, _, _, rfl, (congrArg TS0.1 t_b1).trans rfl, rfl, ⟨by decide, bf⟩, Or.inr rfl⟩, ⟨rfl, rfl, 1, _, _, rfl, (congrArg TS0.1 t_b6).trans rfl, rfl, ar_N (by decide) (by decide) hP9, Or.inl (by rw [t_b6]; decide)⟩, ⟨rfl, rfl, 1, _, _, rfl, (congrArg TS0.1 t_b7).trans rfl, rfl, ar_N (by decide) (by decide) x2, Or.inl (by rw [t_b7]; decide)⟩, ⟨rfl, rfl, 1, _, _, rfl, (congrArg TS0.1 t_b8).trans rfl, rfl, ar_N (by decide) (by decide) x3, Or.inl (by rw [t_b8]; decide)⟩, ⟨rfl, rfl, 1, _, _, rfl, (congrArg TS0.1 t_b9).trans rfl, rfl, ar_N (by decide) (by decide) x4, Or.inl (by rw [t_b9]; decide)⟩, ⟨rfl, rfl, 1, _, _, rfl, (congrArg TS0.1 t_b10).trans rfl, rfl, ar_N (by decide) (by decide) x5, Or.inl (by rw [t_b10]; decide)⟩, ⟨rfl, rfl, 1, _, _, rfl, (congrArg TS0.1 t_b11).trans rfl, rfl, ar_N (by decide) (by decide) x6, Or.inl (by rw [t_b11]; decide)⟩, ⟨rfl, rfl, 1, _, _, rfl, (congrArg TS0.1 t_b12).trans rfl, rfl, ar_N (by decide) (by decide) x7, Or.inl (by rw [t_b12]; decide)⟩, ⟨rfl, rfl, 1, _, _, rfl, (congrArg TS0.1 t_b13).trans rfl, rfl, ar_N (by decide) (by decide) x8, Or.inl (by rw [t_b13]; decide)⟩, ⟨rfl, rfl, 1, _, _, rfl, (congrArg TS0.1 t_b14).trans rfl, rfl, ar_N (by decide) (by decide) x9, Or.inl (by rw [t_b14]; decide)⟩, ⟨rfl, rfl, 1, _, _, rfl, (congrArg TS0.1 t_b15).trans rfl, rfl, ar_N (by decide) (by decide) x10, Or.inl (by rw [t_b15]; decide)⟩, ⟨rfl, rfl, 1, _, _, rfl, (congrArg TS0.1 t_b16).trans rfl, rfl, ⟨by decide, fun j hj => ⟨rfl, (x11 j hj).1, (x11 j hj).2⟩⟩, Or.inl (by rw [t_b16]; decide)⟩, ⟨rfl, rfl, 3, _, _, rfl, (congrArg TS0.1 t_b17).trans rfl, rfl, ar_N (by decide) (by decide) x12, Or.inl (by rw [t_b17]; decide)⟩, trivial⟩ (fun hun => hT.2.keep hun (by decide)) ho ⟨by rcases hr9 with e | e <;> rw [e] <;> exact ⟨rfl, by decide, by decide⟩, fun q hq => by cases hq⟩
noncomputable def pX12_fewestOf_h0 : SPEC := (20, [vr 60, vi 0 9], vj (-1) 15, [], [(83, 0), (84, 0), (85, 0)], [])
set_option maxHeartbeats 40000000 in
set_option maxRecDepth 100000 in
theorem SX12_fewestOf_h0 (l : Launch) (g : GG) : SM l g TS0 yX12_fewestOf cX12_fewestOf 4 (some .int) pX12_fewestOf_h0 := SM_emb fun Γ As hU hV U hT hPF => by
  obtain ⟨v1, v2, rfl, w1, w2⟩ := VR2 (show VR g Γ [vr 60, vi 0 9] As from hV)
  obtain ⟨h0, rfl, t_h0, -⟩ := avi_ref rfl w1
  have t_h0 : Γ h0 = 60 := t_h0
  obtain ⟨vx, rfl, -⟩ := avi_int rfl w2
  obtain ⟨vv, rfl, -, hvv⟩ := avi_nn w2
  obtain ⟨vs, A_h0, hv⟩ := h_obj hT (by rw [t_h0]; decide) ((congrArg TS0.1 t_h0).trans rfl)
  have hv : VR g Γ [vi 0 1, vr 61, vi 0 400, vi 0 400, vj (-1) 400, vj (-99) 200, vr 62, vr 63, vr 64, vr 65, vr 120, vr 121, vr 66, vr 122, vr 67, vr 123, vr 68, vr 69, vi 0 10, vj (-1) 6, vj (-1) 6, vr 70, vr 71, vr 72, vr 73, vr 74, vr 75, vi 0 12, vr 76, vr 77, vr 78, vr 79, vr 80, vr 124, vr 81, vr 82, vr 125, vi 0 9, vi 0 127, vi 0 127, itop, itop, itop, vi 0 1, vi 0 127, vi 0 127, vr 83, vr 84, vr 85, vr 86, vr 126, vr 87, vr 88, vr 89, vr 90, vr 91, vr 92, vr 93, vr 94, vr 95, vr 127, vr 96, vr 97, vr 128] vs := hv
  have hv0 := hv
  obtain ⟨v0, s0, rfl, a0, hv⟩ := vr_cons hv
  obtain ⟨v1, s1, rfl, a1, hv⟩ := vr_cons hv
  obtain ⟨v2, s2, rfl, a2, hv⟩ := vr_cons hv
  obtain ⟨v3, s3, rfl, a3, hv⟩ := vr_cons hv
  obtain ⟨v4, s4, rfl, a4, hv⟩ := vr_cons hv
  obtain ⟨v5, s5, rfl, a5, hv⟩ := vr_cons hv
  obtain ⟨v6, s6, rfl, a6, hv⟩ := vr_cons hv
  obtain ⟨v7, s7, rfl, a7, hv⟩ := vr_cons hv
  obtain ⟨v8, s8, rfl, a8, hv⟩ := vr_cons hv
  obtain ⟨v9, s9, rfl, a9, hv⟩ := vr_cons hv
  obtain ⟨v10, s10, rfl, a10, hv⟩ := vr_cons hv
  obtain ⟨v11, s11, rfl, a11, hv⟩ := vr_cons hv
  obtain ⟨v12, s12, rfl, a12, hv⟩ := vr_cons hv
  obtain ⟨v13, s13, rfl, a13, hv⟩ := vr_cons hv
  obtain ⟨v14, s14, rfl, a14, hv⟩ := vr_cons hv
  obtain ⟨v15, s15, rfl, a15, hv⟩ := vr_cons hv
  obtain ⟨v16, s16, rfl, a16, hv⟩ := vr_cons hv
  obtain ⟨v17, s17, rfl, a17, hv⟩ := vr_cons hv
  obtain ⟨v18, s18, rfl, a18, hv⟩ := vr_cons hv
  obtain ⟨v19, s19, rfl, a19, hv⟩ := vr_cons hv
  obtain ⟨v20, s20, rfl, a20, hv⟩ := vr_cons hv
  obtain ⟨v21, s21, rfl, a21, hv⟩ := vr_cons hv
  obtain ⟨v22, s22, rfl, a22, hv⟩ := vr_cons hv
  obtain ⟨v23, s23, rfl, a23, hv⟩ := vr_cons hv
  obtain ⟨v24, s24, rfl, a24, hv⟩ := vr_cons hv
  obtain ⟨v25, s25, rfl, a25, hv⟩ := vr_cons hv
  obtain ⟨v26, s26, rfl, a26, hv⟩ := vr_cons hv
  obtain ⟨v27, s27, rfl, a27, hv⟩ := vr_cons hv
  obtain ⟨v28, s28, rfl, a28, hv⟩ := vr_cons hv
  obtain ⟨v29, s29, rfl, a29, hv⟩ := vr_cons hv
  obtain ⟨v30, s30, rfl, a30, hv⟩ := vr_cons hv
  obtain ⟨v31, s31, rfl, a31, hv⟩ := vr_cons hv
  obtain ⟨v32, s32, rfl, a32, hv⟩ := vr_cons hv
  obtain ⟨v33, s33, rfl, a33, hv⟩ := vr_cons hv
  obtain ⟨v34, s34, rfl, a34, hv⟩ := vr_cons hv
  obtain ⟨v35, s35, rfl, a35, hv⟩ := vr_cons hv
  obtain ⟨v36, s36, rfl, a36, hv⟩ := vr_cons hv
  obtain ⟨v37, s37, rfl, a37, hv⟩ := vr_cons hv
  obtain ⟨v38, s38, rfl, a38, hv⟩ := vr_cons hv
  obtain ⟨v39, s39, rfl, a39, hv⟩ := vr_cons hv
  obtain ⟨v40, s40, rfl, a40, hv⟩ := vr_cons hv
  obtain ⟨v41, s41, rfl, a41, hv⟩ := vr_cons hv
  obtain ⟨v42, s42, rfl, a42, hv⟩ := vr_cons hv
  obtain ⟨v43, s43, rfl, a43, hv⟩ := vr_cons hv
  obtain ⟨v44, s44, rfl, a44, hv⟩ := vr_cons hv
  obtain ⟨v45, s45, rfl, a45, hv⟩ := vr_cons hv
  obtain ⟨v46, s46, rfl, a46, hv⟩ := vr_cons hv
  obtain ⟨v47, s47, rfl, a47, hv⟩ := vr_cons hv
  obtain ⟨v48, s48, rfl, a48, hv⟩ := vr_cons hv
  obtain ⟨v49, s49, rfl, a49, hv⟩ := vr_cons hv
  obtain ⟨v50, s50, rfl, a50, hv⟩ := vr_cons hv
  obtain ⟨v51, s51, rfl, a51, hv⟩ := vr_cons hv
  obtain ⟨v52, s52, rfl, a52, hv⟩ := vr_cons hv
  obtain ⟨v53, s53, rfl, a53, hv⟩ := vr_cons hv
  obtain ⟨v54, s54, rfl, a54, hv⟩ := vr_cons hv
  obtain ⟨v55, s55, rfl, a55, hv⟩ := vr_cons hv
  obtain ⟨v56, s56, rfl, a56, hv⟩ := vr_cons hv
  obtain ⟨v57, s57, rfl, a57, hv⟩ := vr_cons hv
  obtain ⟨v58, s58, rfl, a58, hv⟩ := vr_cons hv
  obtain ⟨v59, s59, rfl, a59, hv⟩ := vr_cons hv
  obtain ⟨v60, s60, rfl, a60, hv⟩ := vr_cons hv
  obtain ⟨v61, s61, rfl, a61, hv⟩ := vr_cons hv
  obtain ⟨v62, s62, rfl, a62, hv⟩ := vr_cons hv
  obtain ⟨v63, s63, rfl, a63, hv⟩ := vr_cons hv
  obtain rfl := vr_nil hv
  obtain ⟨i0, rfl, -⟩ := avi_int rfl a0
  obtain ⟨b1, rfl, t_b1, -⟩ := avi_ref rfl a1
  obtain ⟨i2, rfl, -⟩ := avi_int rfl a2
  obtain ⟨i3, rfl, -⟩ := avi_int rfl a3
  obtain ⟨i4, rfl, -⟩ := avi_int rfl a4
  obtain ⟨i5, rfl, -⟩ := avi_int rfl a5
  obtain ⟨b6, rfl, t_b6, -⟩ := avi_ref rfl a6
  obtain ⟨b7, rfl, t_b7, -⟩ := avi_ref rfl a7
  obtain ⟨b8, rfl, t_b8, -⟩ := avi_ref rfl a8
  obtain ⟨b9, rfl, t_b9, -⟩ := avi_ref rfl a9
  obtain ⟨b10, rfl, t_b10, -⟩ := avi_ref rfl a10
  obtain ⟨b11, rfl, t_b11, -⟩ := avi_ref rfl a11
  obtain ⟨b12, rfl, t_b12, -⟩ := avi_ref rfl a12
  obtain ⟨b13, rfl, t_b13, -⟩ := avi_ref rfl a13
  obtain ⟨b14, rfl, t_b14, -⟩ := avi_ref rfl a14
  obtain ⟨b15, rfl, t_b15, -⟩ := avi_ref rfl a15
  obtain ⟨b16, rfl, t_b16, -⟩ := avi_ref rfl a16
  obtain ⟨b17, rfl, t_b17, -⟩ := avi_ref rfl a17
  obtain ⟨i18, rfl, -⟩ := avi_int rfl a18
  obtain ⟨i19, rfl, -⟩ := avi_int rfl a19
  obtain ⟨i20, rfl, -⟩ := avi_int rfl a20
  obtain ⟨b21, rfl, t_b21, -⟩ := avi_ref rfl a21
  obtain ⟨b22, rfl, t_b22, -⟩ := avi_ref rfl a22
  obtain ⟨b23, rfl, t_b23, -⟩ := avi_ref rfl a23
  obtain ⟨b24, rfl, t_b24, -⟩ := avi_ref rfl a24
  obtain ⟨b25, rfl, t_b25, -⟩ := avi_ref rfl a25
  obtain ⟨b26, rfl, t_b26, -⟩ := avi_ref rfl a26
  obtain ⟨i27, rfl, -⟩ := avi_int rfl a27
  obtain ⟨b28, rfl, t_b28, -⟩ := avi_ref rfl a28
  obtain ⟨b29, rfl, t_b29, -⟩ := avi_ref rfl a29
  obtain ⟨b30, rfl, t_b30, -⟩ := avi_ref rfl a30
  obtain ⟨b31, rfl, t_b31, -⟩ := avi_ref rfl a31
  obtain ⟨b32, rfl, t_b32, -⟩ := avi_ref rfl a32
  obtain ⟨b33, rfl, t_b33, -⟩ := avi_ref rfl a33
  obtain ⟨b34, rfl, t_b34, -⟩ := avi_ref rfl a34
  obtain ⟨b35, rfl, t_b35, -⟩ := avi_ref rfl a35
  obtain ⟨b36, rfl, t_b36, -⟩ := avi_ref rfl a36
  obtain ⟨i37, rfl, -⟩ := avi_int rfl a37
  obtain ⟨i38, rfl, -⟩ := avi_int rfl a38
  obtain ⟨i39, rfl, -⟩ := avi_int rfl a39
  obtain ⟨i40, rfl, -⟩ := avi_int rfl a40
  obtain ⟨i41, rfl, -⟩ := avi_int rfl a41
  obtain ⟨i42, rfl, -⟩ := avi_int rfl a42
  obtain ⟨i43, rfl, -⟩ := avi_int rfl a43
  obtain ⟨i44, rfl, -⟩ := avi_int rfl a44
  obtain ⟨i45, rfl, -⟩ := avi_int rfl a45
  obtain ⟨b46, rfl, t_b46, -⟩ := avi_ref rfl a46
  obtain ⟨b47, rfl, t_b47, -⟩ := avi_ref rfl a47
  obtain ⟨b48, rfl, t_b48, -⟩ := avi_ref rfl a48
  obtain ⟨b49, rfl, t_b49, -⟩ := avi_ref rfl a49
  obtain ⟨b50, rfl, t_b50, -⟩ := avi_ref rfl a50
  obtain ⟨b51, rfl, t_b51, -⟩ := avi_ref rfl a51
  obtain ⟨b52, rfl, t_b52, -⟩ := avi_ref rfl a52
  obtain ⟨b53, rfl, t_b53, -⟩ := avi_ref rfl a53
  obtain ⟨b54, rfl, t_b54, -⟩ := avi_ref rfl a54
  obtain ⟨b55, rfl, t_b55, -⟩ := avi_ref rfl a55
  obtain ⟨b56, rfl, t_b56, -⟩ := avi_ref rfl a56
  obtain ⟨b57, rfl, t_b57, -⟩ := avi_ref rfl a57
  obtain ⟨b58, rfl, t_b58, -⟩ := avi_ref rfl a58
  obtain ⟨b59, rfl, t_b59, -⟩ := avi_ref rfl a59
  obtain ⟨b60, rfl, t_b60, -⟩ := avi_ref rfl a60
  obtain ⟨b61, rfl, t_b61, -⟩ := avi_ref rfl a61
  obtain ⟨b62, rfl, t_b62, -⟩ := avi_ref rfl a62
  obtain ⟨b63, rfl, t_b63, -⟩ := avi_ref rfl a63
  have t_b6 : Γ b6 = 62 := t_b6
  have t_b7 : Γ b7 = 63 := t_b7
  have t_b12 : Γ b12 = 66 := t_b12
  have t_b13 : Γ b13 = 122 := t_b13
  have t_b17 : Γ b17 = 69 := t_b17
  have t_b46 : Γ b46 = 83 := t_b46
  have t_b47 : Γ b47 = 84 := t_b47
  have t_b48 : Γ b48 = 85 := t_b48
  obtain ⟨P, A_b6, bP⟩ := h_ints (g := g) (k := 1) (n := 11) (a := vi 0 7) (by decide) hT (by rw [t_b6]; decide) ((congrArg TS0.1 t_b6).trans rfl)
  obtain ⟨Lc, A_b7, bLc⟩ := h_ints (g := g) (k := 1) (n := 11) (a := vi 0 12) (by decide) hT (by rw [t_b7]; decide) ((congrArg TS0.1 t_b7).trans rfl)
  obtain ⟨La, A_b12, bLa⟩ := h_ints (g := g) (k := 1) (n := 132) (a := vi 0 6) (by decide) hT (by rw [t_b12]; decide) ((congrArg TS0.1 t_b12).trans rfl)
  obtain ⟨Lb, A_b13, bLb⟩ := h_ints (g := g) (k := 1) (n := 132) (a := vi 0 6) (by decide) hT (by rw [t_b13]; decide) ((congrArg TS0.1 t_b13).trans rfl)
  obtain ⟨Lo, A_b17, bLo⟩ := h_ints (g := g) (k := 3) (n := 132) (a := vi 0 1) (by decide) hT (by rw [t_b17]; decide) ((congrArg TS0.1 t_b17).trans rfl)
  obtain ⟨lw, A_b48, blw⟩ := h_ints (g := g) (k := 3) (n := 12) (a := vi 0 1) (by decide) hT (by rw [t_b48]; decide) ((congrArg TS0.1 t_b48).trans rfl)
  obtain ⟨G, A_b46, bG⟩ := h_ints (g := g) (k := 1) (n := 112) (a := itop) (by decide) hT (by rw [t_b46]; decide) ((congrArg TS0.1 t_b46).trans rfl)
  obtain ⟨gr, A_b47, bgr⟩ := h_ints (g := g) (k := 1) (n := 16) (a := vi 0 11) (by decide) hT (by rw [t_b47]; decide) ((congrArg TS0.1 t_b47).trans rfl)
  obtain ⟨pp, -, hpp, hP9⟩ := bN_of bP vv (by omega)
  obtain ⟨lc, -, hlc, hL9⟩ := bN_of bLc vv (by omega)
  have hgr : gb16 gr := fun j hj => (bgr j hj).2
  have hP : va_P g.1 CLS [(h0, .inr (12, [.int i0, .ref b1, .int i2, .int i3, .int i4, .int i5, .ref b6, .ref b7, .ref b8, .ref b9, .ref b10, .ref b11, .ref b12, .ref b13, .ref b14, .ref b15, .ref b16, .ref b17, .int i18, .int i19, .int i20, .ref b21, .ref b22, .ref b23, .ref b24, .ref b25, .ref b26, .int i27, .ref b28, .ref b29, .ref b30, .ref b31, .ref b32, .ref b33, .ref b34, .ref b35, .ref b36, .int i37, .int i38, .int i39, .int i40, .int i41, .int i42, .int i43, .int i44, .int i45, .ref b46, .ref b47, .ref b48, .ref b49, .ref b50, .ref b51, .ref b52, .ref b53, .ref b54, .ref b55, .ref b56, .ref b57, .ref b58, .ref b59, .ref b60, .ref b61, .ref b62, .ref b63])), (b6, .inl (g.2.1 1, 11, .inl P)), (b7, .inl (g.2.1 1, 11, .inl Lc)), (b12, .inl (g.2.1 1, 132, .inl La)), (b13, .inl (g.2.1 1, 132, .inl Lb)), (b17, .inl (g.2.1 3, 132, .inl Lo)), (b48, .inl (g.2.1 3, 12, .inl lw)), (b46, .inl (g.2.1 1, 112, .inl G)), (b47, .inl (g.2.1 1, 16, .inl gr))] U.heap := vaP_cons A_h0 (vaP_cons A_b6 (vaP_cons A_b7 (vaP_cons A_b12 (vaP_cons A_b13 (vaP_cons A_b17 (vaP_cons A_b48 (vaP_cons A_b46 (vaP_cons A_b47 (vaP_nil)))))))))
  have hD := (D_tags (tl := [60, 62, 63, 66, 122, 69, 85, 83, 84]) (by show [Γ h0, Γ b6, Γ b7, Γ b12, Γ b13, Γ b17, Γ b48, Γ b46, Γ b47] = _; rw [t_h0, t_b6, t_b7, t_b12, t_b13, t_b17, t_b48, t_b46, t_b47]) (by decide) (by decide) : va_D (fun q => Γ q ≠ 0) [(h0, .inr (12, [.int i0, .ref b1, .int i2, .int i3, .int i4, .int i5, .ref b6, .ref b7, .ref b8, .ref b9, .ref b10, .ref b11, .ref b12, .ref b13, .ref b14, .ref b15, .ref b16, .ref b17, .int i18, .int i19, .int i20, .ref b21, .ref b22, .ref b23, .ref b24, .ref b25, .ref b26, .int i27, .ref b28, .ref b29, .ref b30, .ref b31, .ref b32, .ref b33, .ref b34, .ref b35, .ref b36, .int i37, .int i38, .int i39, .int i40, .int i41, .int i42, .int i43, .int i44, .int i45, .ref b46, .ref b47, .ref b48, .ref b49, .ref b50, .ref b51, .ref b52, .ref b53, .ref b54, .ref b55, .ref b56, .ref b57, .ref b58, .ref b59, .ref b60, .ref b61, .ref b62, .ref b63])), (b6, .inl (g.2.1 1, 11, .inl P)), (b7, .inl (g.2.1 1, 11, .inl Lc)), (b12, .inl (g.2.1 1, 132, .inl La)), (b13, .inl (g.2.1 1, 132, .inl Lb)), (b17, .inl (g.2.1 3, 132, .inl Lo)), (b48, .inl (g.2.1 3, 12, .inl lw)), (b46, .inl (g.2.1 1, 112, .inl G)), (b47, .inl (g.2.1 1, 16, .inl gr))])
  refine ⟨_, _, MetI.room (d' := 20) (C_X12_fewestOfG l g h0 b1 b6 b7 b8 b9 b10 b11 b12 b13 b14 b15 b16 b17 b21 b22 b23 b24 b25 b26 b28 b29 b30 b31 b32 b33 b34 b35 b36 b46 b47 b48 b49 b50 b51 b52 b53 b54 b55 b56 b57 b58 b59 b60 b61 b62 b63 i0 i2 i3 i4 i5 i18 i19 i20 i27 i37 i38 i39 i40 i41 i42 i43 i44 i45 P Lc La Lb Lo vv lc pp (by omega) hlc hpp hP9 hL9 lw G gr (lb01_of (bN_of blw)) hgr (in6_of (bN_of bLa)) (in6_of (bN_of bLb))) (by decide) _, hP, hD, fun a o t hQ hz => ?_⟩
  obtain ⟨⟨r, u, ho, hpost, hB⟩, hF⟩ := hQ
  obtain ⟨lw2, G2, gr2, hr, hlw, hg2, rfl⟩ := hpost
  exact SQ_of (v := some (.int r)) hT hP hB.1 hD hF hz ⟨⟨rfl, rfl, _, (congrArg TS0.1 t_h0).trans rfl, OS.refl hv0, _, rfl, Nat.le_of_ble_eq_true rfl⟩, ⟨rfl, rfl, 1, _, _, rfl, (congrArg TS0.1 t_b6).trans rfl, rfl, ⟨by decide, bP⟩, Or.inr rfl⟩, ⟨rfl, rfl, 1, _, _, rfl, (congrArg TS0.1 t_b7).trans rfl, rfl, ⟨by decide, bLc⟩, Or.inr rfl⟩, ⟨rfl, rfl, 1, _, _, rfl, (congrArg TS0.1 t_b12).trans rfl, rfl, ⟨by decide, bLa⟩, Or.inr rfl⟩, ⟨rfl, rfl, 1, _, _, rfl, (congrArg TS0.1 t_b13).trans rfl, rfl, ⟨by decide, bLb⟩, Or.inr rfl⟩, ⟨rfl, rfl, 3, _, _, rfl, (congrArg TS0.1 t_b17).trans rfl, rfl, ⟨by decide, bLo⟩, Or.inr rfl⟩, ⟨rfl, rfl, 3, _, _, rfl, (congrArg TS0.1 t_b48).trans rfl, rfl, ar_N (by decide) (by decide) (of_lb01 hlw), Or.inl (by rw [t_b48]; decide)⟩, ⟨rfl, rfl, 1, _, _, rfl, (congrArg TS0.1 t_b46).trans rfl, rfl, ar_top (by decide), Or.inl (by rw [t_b46]; decide)⟩, ⟨rfl, rfl, 1, _, _, rfl, (congrArg TS0.1 t_b47).trans rfl, rfl, ⟨by decide, fun j hj => ⟨rfl, (hg2 j hj).1, (hg2 j hj).2⟩⟩, Or.inl (by rw [t_b47]; decide)⟩, trivial⟩ (fun hun => hT.2.keep hun (by decide)) ho ⟨av_lh hr.1 (Int.le_trans hr.2 (by decide)), fun q hq => by cases hq⟩
noncomputable def pX3_fewestCalls_h0 : SPEC := (15, [vr 9, vr 3], vj (-1) 7, [], [(3, 14), (9, 0), (9, 1), (30, 0), (48, 0)], [])
set_option maxHeartbeats 40000000 in
set_option maxRecDepth 100000 in
theorem SX3_fewestCalls_h0 (l : Launch) (g : GG) : SM l g TS0 yX3_fewestCalls cX3_fewestCalls 2 (some .int) pX3_fewestCalls_h0 := SM_emb fun Γ As hU hV U hT hPF => by
  obtain ⟨v1, v2, rfl, w1, w2⟩ := VR2 (show VR g Γ [vr 9, vr 3] As from hV)
  obtain ⟨gs, rfl, t_gs, -⟩ := avi_ref rfl w1
  have t_gs : Γ gs = 9 := t_gs
  obtain ⟨v, rfl, t_v, -⟩ := avi_ref rfl w2
  have t_v : Γ v = 3 := t_v
  obtain ⟨gv, al, kn, A_gs, hv0, t_kn⟩ := DV9 hT t_gs
  obtain ⟨pe, lc_, de, v3, v4, v5, v6, v7, v8, v9, v10, v11, v12, v13, gl, v15, A_v, hv1, -, -, -, -, -, -, t_v9, -, -, -, -, t_v15⟩ := DV3 hT t_v
  obtain ⟨-, f9, pp, lc, L, fp, fl_, hpp, hlc, A_L, hLe⟩ := (hT.2.1 rfl).1.2 v t_v
  obtain rfl : v9 = v + 7 := Value.ref.inj (FE_fun (FE_at (k := 9) A_v rfl (by decide) rfl) f9)
  obtain rfl : pe = nI pp := Value.int.inj (FE_fun (FE_at (k := 0) A_v rfl (by decide) rfl) fp)
  obtain rfl : lc_ = nI lc := Value.int.inj (FE_fun (FE_at (k := 1) A_v rfl (by decide) rfl) fl_)
  have hgl := VRat (k := 14) hv1 rfl rfl
  obtain ⟨kf, A_kn, bk⟩ := h_ints (g := g) (k := 1) (n := 5) (a := itop) (by decide) hT (by rw [t_kn]; decide) ((congrArg TS0.1 t_kn).trans rfl)
  obtain ⟨gr, A_v15, bgr⟩ := h_ints (g := g) (k := 1) (n := 7) (a := vi 0 11) (by decide) hT (by rw [t_v15]; decide) ((congrArg TS0.1 t_v15).trans rfl)
  have bL := bndK (Or.inr (Or.inl rfl)) hT t_v9 (by decide) rfl A_L
  have hP : va_P g.1 CLS [(gs, .inr (3, [gv, .int al, .ref kn])), (kn, .inl (g.2.1 1, 5, .inl kf)), (v, .inr (10, [.int (nI pp), .int (nI lc), .int de, .ref v3, .ref v4, .ref v5, .ref v6, .ref v7, .ref v8, .ref (v + 7), .ref v10, .ref v11, .ref v12, .ref v13, .int gl, .ref v15])), (v + 7, .inl (g.2.1 1, 72, .inl L)), (v15, .inl (g.2.1 1, 7, .inl gr))] U.heap := vaP_cons A_gs (vaP_cons A_kn (vaP_cons A_v (vaP_cons A_L (vaP_cons A_v15 (vaP_nil)))))
  have hD := (D_tags (tl := [9, 48, 3, 25, 30]) (by show [Γ gs, Γ kn, Γ v, Γ (v + 7), Γ v15] = _; rw [t_gs, t_kn, t_v, t_v9, t_v15]) (by decide) (by decide) : va_D (fun q => Γ q ≠ 0) [(gs, .inr (3, [gv, .int al, .ref kn])), (kn, .inl (g.2.1 1, 5, .inl kf)), (v, .inr (10, [.int (nI pp), .int (nI lc), .int de, .ref v3, .ref v4, .ref v5, .ref v6, .ref v7, .ref v8, .ref (v + 7), .ref v10, .ref v11, .ref v12, .ref v13, .int gl, .ref v15])), (v + 7, .inl (g.2.1 1, 72, .inl L)), (v15, .inl (g.2.1 1, 7, .inl gr))])
  refine ⟨_, _, MetI.room (d' := 15) (C_X3_fewestCallsG l g gs kn gv al kf v v3 v4 v5 v6 v7 v8 (v + 7) v10 v11 v12 v13 v15 de gl lc pp hlc hpp L gr hLe (fun j hj => (bgr j hj).2) ⟨hgl.2.1, hgl.2.2⟩) (by decide) _, hP, hD, fun a o t hQ hz => ?_⟩
  obtain ⟨⟨r, u, ho, hpost, hB⟩, hF⟩ := hQ
  obtain ⟨gv2, al2, kf2, gr2, gl2, hgv, hg2, rfl, hgr2, rfl⟩ := hpost
  have hgv2 : avi g Γ (vn 3) gv2 := by
    rcases hgv with rfl | rfl
    · exact VRat (k := 0) hv0 rfl rfl
    · exact Or.inl ⟨Or.inr rfl, t_v, by rw [t_v]; decide⟩
  exact SQ_of (v := some (.int r)) hT hP hB.1 hD hF hz ⟨⟨rfl, rfl, _, (congrArg TS0.1 t_gs).trans rfl, ((OS.refl hv0).put (k := 0) rfl (hgv2) (by rw [t_gs]; decide)).put (k := 1) rfl (avi_top _) (by rw [t_gs]; decide), _, rfl, Nat.le_of_ble_eq_true rfl⟩, ⟨rfl, rfl, 1, _, _, rfl, (congrArg TS0.1 t_kn).trans rfl, rfl, ar_top (by decide), Or.inl (by rw [t_kn]; decide)⟩, ⟨rfl, rfl, _, (congrArg TS0.1 t_v).trans rfl, (OS.refl hv1).put (k := 14) rfl (av_lh (Int.le_trans (by decide) hg2.1) hg2.2) (by rw [t_v]; decide), _, rfl, Nat.le_of_ble_eq_true rfl⟩, ⟨rfl, rfl, 1, _, _, rfl, (congrArg TS0.1 t_v9).trans rfl, rfl, ⟨by decide, bL⟩, Or.inr rfl⟩, ⟨rfl, rfl, 1, _, _, rfl, (congrArg TS0.1 t_v15).trans rfl, rfl, ⟨by decide, fun j hj => ⟨rfl, (hgr2 j hj).1, (hgr2 j hj).2⟩⟩, Or.inl (by rw [t_v15]; decide)⟩, trivial⟩ (fun hun => hT.2.keep hun (by decide)) ho ⟨av_lh hg2.1 hg2.2, fun q hq => by cases hq⟩
noncomputable def pX12_tree_h0 : SPEC := (30, [vr 60, itop, itop, itop, itop], itop, [], [(60, 0), (91, 0), (92, 0), (93, 0)], [])
set_option maxHeartbeats 40000000 in
set_option maxRecDepth 100000 in
theorem SX12_tree_h0 (l : Launch) (g : GG) : SM l g TS0 yX12_tree cX12_tree 5 (some .int) pX12_tree_h0 := SM_emb fun Γ As hU hV U hT hPF => by
  obtain ⟨v1, v2, v3, v4, v5, rfl, w1, w2, w3, w4, w5⟩ := VR5 (show VR g Γ [vr 60, itop, itop, itop, itop] As from hV)
  obtain ⟨h0, rfl, t_h0, -⟩ := avi_ref rfl w1
  have t_h0 : Γ h0 = 60 := t_h0
  obtain ⟨x1, rfl, -⟩ := avi_int rfl w2
  obtain ⟨x2, rfl, -⟩ := avi_int rfl w3
  obtain ⟨x3, rfl, -⟩ := avi_int rfl w4
  obtain ⟨x4, rfl, -⟩ := avi_int rfl w5
  obtain ⟨vs, A_h0, hv⟩ := h_obj hT (by rw [t_h0]; decide) ((congrArg TS0.1 t_h0).trans rfl)
  have hv : VR g Γ [vi 0 1, vr 61, vi 0 400, vi 0 400, vj (-1) 400, vj (-99) 200, vr 62, vr 63, vr 64, vr 65, vr 120, vr 121, vr 66, vr 122, vr 67, vr 123, vr 68, vr 69, vi 0 10, vj (-1) 6, vj (-1) 6, vr 70, vr 71, vr 72, vr 73, vr 74, vr 75, vi 0 12, vr 76, vr 77, vr 78, vr 79, vr 80, vr 124, vr 81, vr 82, vr 125, vi 0 9, vi 0 127, vi 0 127, itop, itop, itop, vi 0 1, vi 0 127, vi 0 127, vr 83, vr 84, vr 85, vr 86, vr 126, vr 87, vr 88, vr 89, vr 90, vr 91, vr 92, vr 93, vr 94, vr 95, vr 127, vr 96, vr 97, vr 128] vs := hv
  have hv0 := hv
  obtain ⟨v0, s0, rfl, a0, hv⟩ := vr_cons hv
  obtain ⟨v1, s1, rfl, a1, hv⟩ := vr_cons hv
  obtain ⟨v2, s2, rfl, a2, hv⟩ := vr_cons hv
  obtain ⟨v3, s3, rfl, a3, hv⟩ := vr_cons hv
  obtain ⟨v4, s4, rfl, a4, hv⟩ := vr_cons hv
  obtain ⟨v5, s5, rfl, a5, hv⟩ := vr_cons hv
  obtain ⟨v6, s6, rfl, a6, hv⟩ := vr_cons hv
  obtain ⟨v7, s7, rfl, a7, hv⟩ := vr_cons hv
  obtain ⟨v8, s8, rfl, a8, hv⟩ := vr_cons hv
  obtain ⟨v9, s9, rfl, a9, hv⟩ := vr_cons hv
  obtain ⟨v10, s10, rfl, a10, hv⟩ := vr_cons hv
  obtain ⟨v11, s11, rfl, a11, hv⟩ := vr_cons hv
  obtain ⟨v12, s12, rfl, a12, hv⟩ := vr_cons hv
  obtain ⟨v13, s13, rfl, a13, hv⟩ := vr_cons hv
  obtain ⟨v14, s14, rfl, a14, hv⟩ := vr_cons hv
  obtain ⟨v15, s15, rfl, a15, hv⟩ := vr_cons hv
  obtain ⟨v16, s16, rfl, a16, hv⟩ := vr_cons hv
  obtain ⟨v17, s17, rfl, a17, hv⟩ := vr_cons hv
  obtain ⟨v18, s18, rfl, a18, hv⟩ := vr_cons hv
  obtain ⟨v19, s19, rfl, a19, hv⟩ := vr_cons hv
  obtain ⟨v20, s20, rfl, a20, hv⟩ := vr_cons hv
  obtain ⟨v21, s21, rfl, a21, hv⟩ := vr_cons hv
  obtain ⟨v22, s22, rfl, a22, hv⟩ := vr_cons hv
  obtain ⟨v23, s23, rfl, a23, hv⟩ := vr_cons hv
  obtain ⟨v24, s24, rfl, a24, hv⟩ := vr_cons hv
  obtain ⟨v25, s25, rfl, a25, hv⟩ := vr_cons hv
  obtain ⟨v26, s26, rfl, a26, hv⟩ := vr_cons hv
  obtain ⟨v27, s27, rfl, a27, hv⟩ := vr_cons hv
  obtain ⟨v28, s28, rfl, a28, hv⟩ := vr_cons hv
  obtain ⟨v29, s29, rfl, a29, hv⟩ := vr_cons hv
  obtain ⟨v30, s30, rfl, a30, hv⟩ := vr_cons hv
  obtain ⟨v31, s31, rfl, a31, hv⟩ := vr_cons hv
  obtain ⟨v32, s32, rfl, a32, hv⟩ := vr_cons hv
  obtain ⟨v33, s33, rfl, a33, hv⟩ := vr_cons hv
  obtain ⟨v34, s34, rfl, a34, hv⟩ := vr_cons hv
  obtain ⟨v35, s35, rfl, a35, hv⟩ := vr_cons hv
  obtain ⟨v36, s36, rfl, a36, hv⟩ := vr_cons hv
  obtain ⟨v37, s37, rfl, a37, hv⟩ := vr_cons hv
  obtain ⟨v38, s38, rfl, a38, hv⟩ := vr_cons hv
  obtain ⟨v39, s39, rfl, a39, hv⟩ := vr_cons hv
  obtain ⟨v40, s40, rfl, a40, hv⟩ := vr_cons hv
  obtain ⟨v41, s41, rfl, a41, hv⟩ := vr_cons hv
  obtain ⟨v42, s42, rfl, a42, hv⟩ := vr_cons hv
  obtain ⟨v43, s43, rfl, a43, hv⟩ := vr_cons hv
  obtain ⟨v44, s44, rfl, a44, hv⟩ := vr_cons hv
  obtain ⟨v45, s45, rfl, a45, hv⟩ := vr_cons hv
  obtain ⟨v46, s46, rfl, a46, hv⟩ := vr_cons hv
  obtain ⟨v47, s47, rfl, a47, hv⟩ := vr_cons hv
  obtain ⟨v48, s48, rfl, a48, hv⟩ := vr_cons hv
  obtain ⟨v49, s49, rfl, a49, hv⟩ := vr_cons hv
  obtain ⟨v50, s50, rfl, a50, hv⟩ := vr_cons hv
  obtain ⟨v51, s51, rfl, a51, hv⟩ := vr_cons hv
  obtain ⟨v52, s52, rfl, a52, hv⟩ := vr_cons hv
  obtain ⟨v53, s53, rfl, a53, hv⟩ := vr_cons hv
  obtain ⟨v54, s54, rfl, a54, hv⟩ := vr_cons hv
  obtain ⟨v55, s55, rfl, a55, hv⟩ := vr_cons hv
  obtain ⟨v56, s56, rfl, a56, hv⟩ := vr_cons hv
  obtain ⟨v57, s57, rfl, a57, hv⟩ := vr_cons hv
  obtain ⟨v58, s58, rfl, a58, hv⟩ := vr_cons hv
  obtain ⟨v59, s59, rfl, a59, hv⟩ := vr_cons hv
  obtain ⟨v60, s60, rfl, a60, hv⟩ := vr_cons hv
  obtain ⟨v61, s61, rfl, a61, hv⟩ := vr_cons hv
  obtain ⟨v62, s62, rfl, a62, hv⟩ := vr_cons hv
  obtain ⟨v63, s63, rfl, a63, hv⟩ := vr_cons hv
  obtain rfl := vr_nil hv
  obtain ⟨i0, rfl, -⟩ := avi_int rfl a0
  obtain ⟨b1, rfl, t_b1, -⟩ := avi_ref rfl a1
  obtain ⟨i2, rfl, -⟩ := avi_int rfl a2
  obtain ⟨i3, rfl, -⟩ := avi_int rfl a3
  obtain ⟨i4, rfl, -⟩ := avi_int rfl a4
  obtain ⟨i5, rfl, -⟩ := avi_int rfl a5
  obtain ⟨b6, rfl, t_b6, -⟩ := avi_ref rfl a6
  obtain ⟨b7, rfl, t_b7, -⟩ := avi_ref rfl a7
  obtain ⟨b8, rfl, t_b8, -⟩ := avi_ref rfl a8
  obtain ⟨b9, rfl, t_b9, -⟩ := avi_ref rfl a9
  obtain ⟨b10, rfl, t_b10, -⟩ := avi_ref rfl a10
  obtain ⟨b11, rfl, t_b11, -⟩ := avi_ref rfl a11
  obtain ⟨b12, rfl, t_b12, -⟩ := avi_ref rfl a12
  obtain ⟨b13, rfl, t_b13, -⟩ := avi_ref rfl a13
  obtain ⟨b14, rfl, t_b14, -⟩ := avi_ref rfl a14
  obtain ⟨b15, rfl, t_b15, -⟩ := avi_ref rfl a15
  obtain ⟨b16, rfl, t_b16, -⟩ := avi_ref rfl a16
  obtain ⟨b17, rfl, t_b17, -⟩ := avi_ref rfl a17
  obtain ⟨i18, rfl, -⟩ := avi_int rfl a18
  obtain ⟨i19, rfl, -⟩ := avi_int rfl a19
  obtain ⟨i20, rfl, -⟩ := avi_int rfl a20
  obtain ⟨b21, rfl, t_b21, -⟩ := avi_ref rfl a21
  obtain ⟨b22, rfl, t_b22, -⟩ := avi_ref rfl a22
  obtain ⟨b23, rfl, t_b23, -⟩ := avi_ref rfl a23
  obtain ⟨b24, rfl, t_b24, -⟩ := avi_ref rfl a24
  obtain ⟨b25, rfl, t_b25, -⟩ := avi_ref rfl a25
  obtain ⟨b26, rfl, t_b26, -⟩ := avi_ref rfl a26
  obtain ⟨i27, rfl, -⟩ := avi_int rfl a27
  obtain ⟨b28, rfl, t_b28, -⟩ := avi_ref rfl a28
  obtain ⟨b29, rfl, t_b29, -⟩ := avi_ref rfl a29
  obtain ⟨b30, rfl, t_b30, -⟩ := avi_ref rfl a30
  obtain ⟨b31, rfl, t_b31, -⟩ := avi_ref rfl a31
  obtain ⟨b32, rfl, t_b32, -⟩ := avi_ref rfl a32
  obtain ⟨b33, rfl, t_b33, -⟩ := avi_ref rfl a33
  obtain ⟨b34, rfl, t_b34, -⟩ := avi_ref rfl a34
  obtain ⟨b35, rfl, t_b35, -⟩ := avi_ref rfl a35
  obtain ⟨b36, rfl, t_b36, -⟩ := avi_ref rfl a36
  obtain ⟨i37, rfl, -⟩ := avi_int rfl a37
  obtain ⟨i38, rfl, -⟩ := avi_int rfl a38
  obtain ⟨i39, rfl, -⟩ := avi_int rfl a39
  obtain ⟨i40, rfl, -⟩ := avi_int rfl a40
  obtain ⟨i41, rfl, -⟩ := avi_int rfl a41
  obtain ⟨i42, rfl, -⟩ := avi_int rfl a42
  obtain ⟨i43, rfl, -⟩ := avi_int rfl a43
  obtain ⟨i44, rfl, -⟩ := avi_int rfl a44
  obtain ⟨i45, rfl, -⟩ := avi_int rfl a45
  obtain ⟨b46, rfl, t_b46, -⟩ := avi_ref rfl a46
  obtain ⟨b47, rfl, t_b47, -⟩ := avi_ref rfl a47
  obtain ⟨b48, rfl, t_b48, -⟩ := avi_ref rfl a48
  obtain ⟨b49, rfl, t_b49, -⟩ := avi_ref rfl a49
  obtain ⟨b50, rfl, t_b50, -⟩ := avi_ref rfl a50
  obtain ⟨b51, rfl, t_b51, -⟩ := avi_ref rfl a51
  obtain ⟨b52, rfl, t_b52, -⟩ := avi_ref rfl a52
  obtain ⟨b53, rfl, t_b53, -⟩ := avi_ref rfl a53
  obtain ⟨b54, rfl, t_b54, -⟩ := avi_ref rfl a54
  obtain ⟨b55, rfl, t_b55, -⟩ := avi_ref rfl a55
  obtain ⟨b56, rfl, t_b56, -⟩ := avi_ref rfl a56
  obtain ⟨b57, rfl, t_b57, -⟩ := avi_ref rfl a57
  obtain ⟨b58, rfl, t_b58, -⟩ := avi_ref rfl a58
  obtain ⟨b59, rfl, t_b59, -⟩ := avi_ref rfl a59
  obtain ⟨b60, rfl, t_b60, -⟩ := avi_ref rfl a60
  obtain ⟨b61, rfl, t_b61, -⟩ := avi_ref rfl a61
  obtain ⟨b62, rfl, t_b62, -⟩ := avi_ref rfl a62
  obtain ⟨b63, rfl, t_b63, -⟩ := avi_ref rfl a63
  have t_b6 : Γ b6 = 62 := t_b6
  have t_b7 : Γ b7 = 63 := t_b7
  have t_b12 : Γ b12 = 66 := t_b12
  have t_b13 : Γ b13 = 122 := t_b13
  have t_b17 : Γ b17 = 69 := t_b17
  have t_b55 : Γ b55 = 91 := t_b55
  have t_b56 : Γ b56 = 92 := t_b56
  have t_b57 : Γ b57 = 93 := t_b57
  obtain ⟨vc, rfl, -, hvc⟩ := avi_nn (VRat (k := 18) hv0 rfl rfl)
  obtain ⟨P, A_b6, bP⟩ := h_ints (g := g) (k := 1) (n := 11) (a := vi 0 7) (by decide) hT (by rw [t_b6]; decide) ((congrArg TS0.1 t_b6).trans rfl)
  obtain ⟨Lc, A_b7, bLc⟩ := h_ints (g := g) (k := 1) (n := 11) (a := vi 0 12) (by decide) hT (by rw [t_b7]; decide) ((congrArg TS0.1 t_b7).trans rfl)
  obtain ⟨La, A_b12, bLa⟩ := h_ints (g := g) (k := 1) (n := 132) (a := vi 0 6) (by decide) hT (by rw [t_b12]; decide) ((congrArg TS0.1 t_b12).trans rfl)
  obtain ⟨Lb, A_b13, bLb⟩ := h_ints (g := g) (k := 1) (n := 132) (a := vi 0 6) (by decide) hT (by rw [t_b13]; decide) ((congrArg TS0.1 t_b13).trans rfl)
  obtain ⟨Lo, A_b17, bLo⟩ := h_ints (g := g) (k := 3) (n := 132) (a := vi 0 1) (by decide) hT (by rw [t_b17]; decide) ((congrArg TS0.1 t_b17).trans rfl)
  obtain ⟨B, A_b55, bB⟩ := h_ints (g := g) (k := 1) (n := 49) (a := vi 0 6) (by decide) hT (by rw [t_b55]; decide) ((congrArg TS0.1 t_b55).trans rfl)
  obtain ⟨BM, A_b56, bBM⟩ := h_ints (g := g) (k := 1) (n := 7) (a := vi 0 6) (by decide) hT (by rw [t_b56]; decide) ((congrArg TS0.1 t_b56).trans rfl)
  obtain ⟨TM, A_b57, bTM⟩ := h_ints (g := g) (k := 1) (n := 7) (a := itop) (by decide) hT (by rw [t_b57]; decide) ((congrArg TS0.1 t_b57).trans rfl)
  have hP : va_P g.1 CLS [(h0, .inr (12, [.int i0, .ref b1, .int i2, .int i3, .int i4, .int i5, .ref b6, .ref b7, .ref b8, .ref b9, .ref b10, .ref b11, .ref b12, .ref b13, .ref b14, .ref b15, .ref b16, .ref b17, .int (nI vc), .int i19, .int i20, .ref b21, .ref b22, .ref b23, .ref b24, .ref b25, .ref b26, .int i27, .ref b28, .ref b29, .ref b30, .ref b31, .ref b32, .ref b33, .ref b34, .ref b35, .ref b36, .int i37, .int i38, .int i39, .int i40, .int i41, .int i42, .int i43, .int i44, .int i45, .ref b46, .ref b47, .ref b48, .ref b49, .ref b50, .ref b51, .ref b52, .ref b53, .ref b54, .ref b55, .ref b56, .ref b57, .ref b58, .ref b59, .ref b60, .ref b61, .ref b62, .ref b63])), (b6, .inl (g.2.1 1, 11, .inl P)), (b7, .inl (g.2.1 1, 11, .inl Lc)), (b12, .inl (g.2.1 1, 132, .inl La)), (b13, .inl (g.2.1 1, 132, .inl Lb)), (b17, .inl (g.2.1 3, 132, .inl Lo)), (b55, .inl (g.2.1 1, 49, .inl B)), (b56, .inl (g.2.1 1, 7, .inl BM)), (b57, .inl (g.2.1 1, 7, .inl TM))] U.heap := vaP_cons A_h0 (vaP_cons A_b6 (vaP_cons A_b7 (vaP_cons A_b12 (vaP_cons A_b13 (vaP_cons A_b17 (vaP_cons A_b55 (vaP_cons A_b56 (vaP_cons A_b57 (vaP_nil)))))))))
  have hD := (D_tags (tl := [60, 62, 63, 66, 122, 69, 91, 92, 93]) (by show [Γ h0, Γ b6, Γ b7, Γ b12, Γ b13, Γ b17, Γ b55, Γ b56, Γ b57] = _; rw [t_h0, t_b6, t_b7, t_b12, t_b13, t_b17, t_b55, t_b56, t_b57]) (by decide) (by decide) : va_D (fun q => Γ q ≠ 0) [(h0, .inr (12, [.int i0, .ref b1, .int i2, .int i3, .int i4, .int i5, .ref b6, .ref b7, .ref b8, .ref b9, .ref b10, .ref b11, .ref b12, .ref b13, .ref b14, .ref b15, .ref b16, .ref b17, .int (nI vc), .int i19, .int i20, .ref b21, .ref b22, .ref b23, .ref b24, .ref b25, .ref b26, .int i27, .ref b28, .ref b29, .ref b30, .ref b31, .ref b32, .ref b33, .ref b34, .ref b35, .ref b36, .int i37, .int i38, .int i39, .int i40, .int i41, .int i42, .int i43, .int i44, .int i45, .ref b46, .ref b47, .ref b48, .ref b49, .ref b50, .ref b51, .ref b52, .ref b53, .ref b54, .ref b55, .ref b56, .ref b57, .ref b58, .ref b59, .ref b60, .ref b61, .ref b62, .ref b63])), (b6, .inl (g.2.1 1, 11, .inl P)), (b7, .inl (g.2.1 1, 11, .inl Lc)), (b12, .inl (g.2.1 1, 132, .inl La)), (b13, .inl (g.2.1 1, 132, .inl Lb)), (b17, .inl (g.2.1 3, 132, .inl Lo)), (b55, .inl (g.2.1 1, 49, .inl B)), (b56, .inl (g.2.1 1, 7, .inl BM)), (b57, .inl (g.2.1 1, 7, .inl TM))])
  refine ⟨_, _, MetI.room (d' := 30) (C_X12_treeG l g h0 b1 b6 b7 b8 b9 b10 b11 b12 b13 b14 b15 b16 b17 b21 b22 b23 b24 b25 b26 b28 b29 b30 b31 b32 b33 b34 b35 b36 b46 b47 b48 b49 b50 b51 b52 b53 b54 b55 b56 b57 b58 b59 b60 b61 b62 b63 i0 i2 i3 i4 i5 i19 i20 i27 i37 i38 i39 i40 i41 i42 i43 i44 i45 P Lc La Lb Lo B BM TM vc hvc (fun j hj => by obtain ⟨k, _, h2, h3⟩ := bN_of bP j hj; exact ⟨k, h2, h3⟩) (fun j hj => by obtain ⟨k, _, h2, h3⟩ := bN_of bLc j hj; exact ⟨k, h2, h3⟩) (in6_of (bN_of bLa)) (in6_of (bN_of bLb)) (bd7_of (bN_of bB)) (bd7_of (bN_of bBM)) x1 x2 x3 x4) (by decide) _, hP, hD, fun a o t hQ hz => ?_⟩
  obtain ⟨⟨r, u, ho, hpost, hB⟩, hF⟩ := hQ
  obtain ⟨B2, BM2, TM2, hB2, hBM2, rfl⟩ := hpost
  exact SQ_of (v := some (.int r)) hT hP hB.1 hD hF hz ⟨⟨rfl, rfl, _, (congrArg TS0.1 t_h0).trans rfl, (OS.refl hv0).put (k := 0) rfl (⟨rfl, by decide, by decide⟩) (by rw [t_h0]; decide), _, rfl, Nat.le_of_ble_eq_true rfl⟩, ⟨rfl, rfl, 1, _, _, rfl, (congrArg TS0.1 t_b6).trans rfl, rfl, ⟨by decide, bP⟩, Or.inr rfl⟩, ⟨rfl, rfl, 1, _, _, rfl, (congrArg TS0.1 t_b7).trans rfl, rfl, ⟨by decide, bLc⟩, Or.inr rfl⟩, ⟨rfl, rfl, 1, _, _, rfl, (congrArg TS0.1 t_b12).trans rfl, rfl, ⟨by decide, bLa⟩, Or.inr rfl⟩, ⟨rfl, rfl, 1, _, _, rfl, (congrArg TS0.1 t_b13).trans rfl, rfl, ⟨by decide, bLb⟩, Or.inr rfl⟩, ⟨rfl, rfl, 3, _, _, rfl, (congrArg TS0.1 t_b17).trans rfl, rfl, ⟨by decide, bLo⟩, Or.inr rfl⟩, ⟨rfl, rfl, 1, _, _, rfl, (congrArg TS0.1 t_b55).trans rfl, rfl, ar_N (by decide) (by decide) (of_bd7 hB2), Or.inl (by rw [t_b55]; decide)⟩, ⟨rfl, rfl, 1, _, _, rfl, (congrArg TS0.1 t_b56).trans rfl, rfl, ar_N (by decide) (by decide) (of_bd7 hBM2), Or.inl (by rw [t_b56]; decide)⟩, ⟨rfl, rfl, 1, _, _, rfl, (congrArg TS0.1 t_b57).trans rfl, rfl, ar_top (by decide), Or.inl (by rw [t_b57]; decide)⟩, trivial⟩ (fun hun => hT.2.keep hun (by decide)) ho ⟨avi_top _, fun q hq => by cases hq⟩

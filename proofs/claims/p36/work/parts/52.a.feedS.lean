theorem vr6 {g : GG} {Γ : Nat → Nat} {a b c d e f : AV} : ∀ {vs : List Value}, VR g Γ [a, b, c, d, e, f] vs → ∃ v1 v2 v3 v4 v5 v6, vs = [v1, v2, v3, v4, v5, v6] ∧ avi g Γ a v1 ∧ avi g Γ b v2 ∧ avi g Γ c v3 ∧ avi g Γ d v4 ∧ avi g Γ e v5 ∧ avi g Γ f v6 := by
  intro vs hv
  obtain ⟨v1, s1, rfl, a1, hv⟩ := vr_cons hv
  obtain ⟨v2, s2, rfl, a2, hv⟩ := vr_cons hv
  obtain ⟨v3, s3, rfl, a3, hv⟩ := vr_cons hv
  obtain ⟨v4, s4, rfl, a4, hv⟩ := vr_cons hv
  obtain ⟨v5, s5, rfl, a5, hv⟩ := vr_cons hv
  obtain ⟨v6, s6, rfl, a6, hv⟩ := vr_cons hv
  obtain rfl := vr_nil hv
  exact ⟨v1, v2, v3, v4, v5, v6, rfl, a1, a2, a3, a4, a5, a6⟩
theorem fdn_le9 {n s : Nat} (h : n ≤ 400) : fdn n s ≤ 400 := by
  unfold fdn
  split <;> omega
theorem fdr_av {g : GG} {Γ : Nat → Nat} {n s : Nat} (h : n ≤ 400) : avi g Γ (vj (-1) 400) (.int (fdr n s)) := by
  unfold fdr
  split
  · rename_i h2
    exact avle_ok (a := vi 0 400) (by decide) (avi_nI (by omega) h2 (by decide))
  · exact ⟨rfl, by decide, by decide⟩
noncomputable def pX12_feed_h0 : SPEC := (1, [vr 60, itop, itop, itop, itop, itop], vj (-1) 400, [], [(60, 0), (60, 2), (61, 0)], [])
set_option maxHeartbeats 40000000 in
set_option maxRecDepth 100000 in
theorem SX12_feed_h0 (l : Launch) (g : GG) : SM l g TS0 yX12_feed cX12_feed 6 (some .int) pX12_feed_h0 := SM_emb fun Γ As hU hV U hT hPF => by
  obtain ⟨v1, v2, v3, v4, v5, v6, rfl, w1, w2, w3, w4, w5, w6⟩ := vr6 (show VR g Γ [vr 60, itop, itop, itop, itop, itop] As from hV)
  obtain ⟨h0, rfl, t_h0, -⟩ := avi_ref rfl w1
  have t_h0 : Γ h0 = 60 := t_h0
  obtain ⟨x0, rfl, -⟩ := avi_int rfl w2
  obtain ⟨x1, rfl, -⟩ := avi_int rfl w3
  obtain ⟨x2, rfl, -⟩ := avi_int rfl w4
  obtain ⟨x3, rfl, -⟩ := avi_int rfl w5
  obtain ⟨x4, rfl, -⟩ := avi_int rfl w6
  obtain ⟨vs, A_h0, hv⟩ := h_obj hT (by rw [t_h0]; decide) ((congrArg TS0.1 t_h0).trans rfl)
  have hv : VR g Γ [vi 0 1, vr 61, vi 0 400, vi 0 400, vj (-1) 400, vj (-99) 200, vr 62, vr 63, vr 64, vr 65, vr 120, vr 121, vr 66, vr 122, vr 67, vr 123, vr 68, vr 69, vi 0 10, vj (-1) 6, vj (-1) 6, vr 70, vr 71, vr 72, vr 73, vr 74, vr 75, vi 0 12, vr 76, vr 77, vr 78, vr 79, vr 80, vr 124, vr 81, vr 82, vr 125, vi 0 9, vi 0 127, vi 0 127, itop, itop, itop, vi 0 1, vi 0 127, vi 0 127, vr 83, vr 84, vr 85, vr 86, vr 126, vr 87, vr 88, vr 89, vr 90, vr 91, vr 92, vr 93, vr 94, vr 95, vr 127, vr 96, vr 97, vr 128] vs := hv
  have hv0 := hv
  obtain ⟨v0, s0, rfl, a0, hv⟩ := vr_cons hv
  obtain ⟨v1, s1, rfl, a1, hv⟩ := vr_cons hv
  obtain ⟨v2, s2, rfl, a2, hv⟩ := vr_cons hv
  obtain ⟨v3, s3, rfl, a3, hv⟩ := vr_cons hv
  obtain ⟨v4, s4, rfl, a4, hv⟩ := vr_cons hv
  obtain ⟨v5, s5, rfl, a5, hv⟩ := vr_cons hv
  obtain ⟨v6, s6, rfl, a6, hv⟩ := vr_cons hv
  obtain ⟨v7, s7, rfl, a7, hv⟩ := vr_cons hv
  obtain ⟨v8, s8, rfl, a8, hv⟩ := vr_cons hv
  obtain ⟨v9, s9, rfl, a9, hv⟩ := vr_cons hv
  obtain ⟨v10, s10, rfl, a10, hv⟩ := vr_cons hv
  obtain ⟨v11, s11, rfl, a11, hv⟩ := vr_cons hv
  obtain ⟨v12, s12, rfl, a12, hv⟩ := vr_cons hv
  obtain ⟨v13, s13, rfl, a13, hv⟩ := vr_cons hv
  obtain ⟨v14, s14, rfl, a14, hv⟩ := vr_cons hv
  obtain ⟨v15, s15, rfl, a15, hv⟩ := vr_cons hv
  obtain ⟨v16, s16, rfl, a16, hv⟩ := vr_cons hv
  obtain ⟨v17, s17, rfl, a17, hv⟩ := vr_cons hv
  obtain ⟨v18, s18, rfl, a18, hv⟩ := vr_cons hv
  obtain ⟨v19, s19, rfl, a19, hv⟩ := vr_cons hv
  obtain ⟨v20, s20, rfl, a20, hv⟩ := vr_cons hv
  obtain ⟨v21, s21, rfl, a21, hv⟩ := vr_cons hv
  obtain ⟨v22, s22, rfl, a22, hv⟩ := vr_cons hv
  obtain ⟨v23, s23, rfl, a23, hv⟩ := vr_cons hv
  obtain ⟨v24, s24, rfl, a24, hv⟩ := vr_cons hv
  obtain ⟨v25, s25, rfl, a25, hv⟩ := vr_cons hv
  obtain ⟨v26, s26, rfl, a26, hv⟩ := vr_cons hv
  obtain ⟨v27, s27, rfl, a27, hv⟩ := vr_cons hv
  obtain ⟨v28, s28, rfl, a28, hv⟩ := vr_cons hv
  obtain ⟨v29, s29, rfl, a29, hv⟩ := vr_cons hv
  obtain ⟨v30, s30, rfl, a30, hv⟩ := vr_cons hv
  obtain ⟨v31, s31, rfl, a31, hv⟩ := vr_cons hv
  obtain ⟨v32, s32, rfl, a32, hv⟩ := vr_cons hv
  obtain ⟨v33, s33, rfl, a33, hv⟩ := vr_cons hv
  obtain ⟨v34, s34, rfl, a34, hv⟩ := vr_cons hv
  obtain ⟨v35, s35, rfl, a35, hv⟩ := vr_cons hv
  obtain ⟨v36, s36, rfl, a36, hv⟩ := vr_cons hv
  obtain ⟨v37, s37, rfl, a37, hv⟩ := vr_cons hv
  obtain ⟨v38, s38, rfl, a38, hv⟩ := vr_cons hv
  obtain ⟨v39, s39, rfl, a39, hv⟩ := vr_cons hv
  obtain ⟨v40, s40, rfl, a40, hv⟩ := vr_cons hv
  obtain ⟨v41, s41, rfl, a41, hv⟩ := vr_cons hv
  obtain ⟨v42, s42, rfl, a42, hv⟩ := vr_cons hv
  obtain ⟨v43, s43, rfl, a43, hv⟩ := vr_cons hv
  obtain ⟨v44, s44, rfl, a44, hv⟩ := vr_cons hv
  obtain ⟨v45, s45, rfl, a45, hv⟩ := vr_cons hv
  obtain ⟨v46, s46, rfl, a46, hv⟩ := vr_cons hv
  obtain ⟨v47, s47, rfl, a47, hv⟩ := vr_cons hv
  obtain ⟨v48, s48, rfl, a48, hv⟩ := vr_cons hv
  obtain ⟨v49, s49, rfl, a49, hv⟩ := vr_cons hv
  obtain ⟨v50, s50, rfl, a50, hv⟩ := vr_cons hv
  obtain ⟨v51, s51, rfl, a51, hv⟩ := vr_cons hv
  obtain ⟨v52, s52, rfl, a52, hv⟩ := vr_cons hv
  obtain ⟨v53, s53, rfl, a53, hv⟩ := vr_cons hv
  obtain ⟨v54, s54, rfl, a54, hv⟩ := vr_cons hv
  obtain ⟨v55, s55, rfl, a55, hv⟩ := vr_cons hv
  obtain ⟨v56, s56, rfl, a56, hv⟩ := vr_cons hv
  obtain ⟨v57, s57, rfl, a57, hv⟩ := vr_cons hv
  obtain ⟨v58, s58, rfl, a58, hv⟩ := vr_cons hv
  obtain ⟨v59, s59, rfl, a59, hv⟩ := vr_cons hv
  obtain ⟨v60, s60, rfl, a60, hv⟩ := vr_cons hv
  obtain ⟨v61, s61, rfl, a61, hv⟩ := vr_cons hv
  obtain ⟨v62, s62, rfl, a62, hv⟩ := vr_cons hv
  obtain ⟨v63, s63, rfl, a63, hv⟩ := vr_cons hv
  obtain rfl := vr_nil hv
  obtain ⟨i0, rfl, -⟩ := avi_int rfl a0
  obtain ⟨b1, rfl, t_b1, -⟩ := avi_ref rfl a1
  obtain ⟨i2, rfl, -⟩ := avi_int rfl a2
  obtain ⟨i3, rfl, -⟩ := avi_int rfl a3
  obtain ⟨i4, rfl, -⟩ := avi_int rfl a4
  obtain ⟨i5, rfl, -⟩ := avi_int rfl a5
  obtain ⟨b6, rfl, t_b6, -⟩ := avi_ref rfl a6
  obtain ⟨b7, rfl, t_b7, -⟩ := avi_ref rfl a7
  obtain ⟨b8, rfl, t_b8, -⟩ := avi_ref rfl a8
  obtain ⟨b9, rfl, t_b9, -⟩ := avi_ref rfl a9
  obtain ⟨b10, rfl, t_b10, -⟩ := avi_ref rfl a10
  obtain ⟨b11, rfl, t_b11, -⟩ := avi_ref rfl a11
  obtain ⟨b12, rfl, t_b12, -⟩ := avi_ref rfl a12
  obtain ⟨b13, rfl, t_b13, -⟩ := avi_ref rfl a13
  obtain ⟨b14, rfl, t_b14, -⟩ := avi_ref rfl a14
  obtain ⟨b15, rfl, t_b15, -⟩ := avi_ref rfl a15
  obtain ⟨b16, rfl, t_b16, -⟩ := avi_ref rfl a16
  obtain ⟨b17, rfl, t_b17, -⟩ := avi_ref rfl a17
  obtain ⟨i18, rfl, -⟩ := avi_int rfl a18
  obtain ⟨i19, rfl, -⟩ := avi_int rfl a19
  obtain ⟨i20, rfl, -⟩ := avi_int rfl a20
  obtain ⟨b21, rfl, t_b21, -⟩ := avi_ref rfl a21
  obtain ⟨b22, rfl, t_b22, -⟩ := avi_ref rfl a22
  obtain ⟨b23, rfl, t_b23, -⟩ := avi_ref rfl a23
  obtain ⟨b24, rfl, t_b24, -⟩ := avi_ref rfl a24
  obtain ⟨b25, rfl, t_b25, -⟩ := avi_ref rfl a25
  obtain ⟨b26, rfl, t_b26, -⟩ := avi_ref rfl a26
  obtain ⟨i27, rfl, -⟩ := avi_int rfl a27
  obtain ⟨b28, rfl, t_b28, -⟩ := avi_ref rfl a28
  obtain ⟨b29, rfl, t_b29, -⟩ := avi_ref rfl a29
  obtain ⟨b30, rfl, t_b30, -⟩ := avi_ref rfl a30
  obtain ⟨b31, rfl, t_b31, -⟩ := avi_ref rfl a31
  obtain ⟨b32, rfl, t_b32, -⟩ := avi_ref rfl a32
  obtain ⟨b33, rfl, t_b33, -⟩ := avi_ref rfl a33
  obtain ⟨b34, rfl, t_b34, -⟩ := avi_ref rfl a34
  obtain ⟨b35, rfl, t_b35, -⟩ := avi_ref rfl a35
  obtain ⟨b36, rfl, t_b36, -⟩ := avi_ref rfl a36
  obtain ⟨i37, rfl, -⟩ := avi_int rfl a37
  obtain ⟨i38, rfl, -⟩ := avi_int rfl a38
  obtain ⟨i39, rfl, -⟩ := avi_int rfl a39
  obtain ⟨i40, rfl, -⟩ := avi_int rfl a40
  obtain ⟨i41, rfl, -⟩ := avi_int rfl a41
  obtain ⟨i42, rfl, -⟩ := avi_int rfl a42
  obtain ⟨i43, rfl, -⟩ := avi_int rfl a43
  obtain ⟨i44, rfl, -⟩ := avi_int rfl a44
  obtain ⟨i45, rfl, -⟩ := avi_int rfl a45
  obtain ⟨b46, rfl, t_b46, -⟩ := avi_ref rfl a46
  obtain ⟨b47, rfl, t_b47, -⟩ := avi_ref rfl a47
  obtain ⟨b48, rfl, t_b48, -⟩ := avi_ref rfl a48
  obtain ⟨b49, rfl, t_b49, -⟩ := avi_ref rfl a49
  obtain ⟨b50, rfl, t_b50, -⟩ := avi_ref rfl a50
  obtain ⟨b51, rfl, t_b51, -⟩ := avi_ref rfl a51
  obtain ⟨b52, rfl, t_b52, -⟩ := avi_ref rfl a52
  obtain ⟨b53, rfl, t_b53, -⟩ := avi_ref rfl a53
  obtain ⟨b54, rfl, t_b54, -⟩ := avi_ref rfl a54
  obtain ⟨b55, rfl, t_b55, -⟩ := avi_ref rfl a55
  obtain ⟨b56, rfl, t_b56, -⟩ := avi_ref rfl a56
  obtain ⟨b57, rfl, t_b57, -⟩ := avi_ref rfl a57
  obtain ⟨b58, rfl, t_b58, -⟩ := avi_ref rfl a58
  obtain ⟨b59, rfl, t_b59, -⟩ := avi_ref rfl a59
  obtain ⟨b60, rfl, t_b60, -⟩ := avi_ref rfl a60
  obtain ⟨b61, rfl, t_b61, -⟩ := avi_ref rfl a61
  obtain ⟨b62, rfl, t_b62, -⟩ := avi_ref rfl a62
  obtain ⟨b63, rfl, t_b63, -⟩ := avi_ref rfl a63
  have t_b1 : Γ b1 = 61 := t_b1
  obtain ⟨n0, rfl, -, hn0⟩ := avi_nn (VRat (k := 2) hv0 rfl rfl)
  obtain ⟨f0, A_b1, bf⟩ := h_ints (g := g) (k := 0) (n := 400) (a := vj (-128) 127) (by decide) hT (by rw [t_b1]; decide) ((congrArg TS0.1 t_b1).trans rfl)
  have hP : va_P g.1 CLS [(h0, .inr (12, [.int i0, .ref b1, .int (nI n0), .int i3, .int i4, .int i5, .ref b6, .ref b7, .ref b8, .ref b9, .ref b10, .ref b11, .ref b12, .ref b13, .ref b14, .ref b15, .ref b16, .ref b17, .int i18, .int i19, .int i20, .ref b21, .ref b22, .ref b23, .ref b24, .ref b25, .ref b26, .int i27, .ref b28, .ref b29, .ref b30, .ref b31, .ref b32, .ref b33, .ref b34, .ref b35, .ref b36, .int i37, .int i38, .int i39, .int i40, .int i41, .int i42, .int i43, .int i44, .int i45, .ref b46, .ref b47, .ref b48, .ref b49, .ref b50, .ref b51, .ref b52, .ref b53, .ref b54, .ref b55, .ref b56, .ref b57, .ref b58, .ref b59, .ref b60, .ref b61, .ref b62, .ref b63])), (b1, .inl (g.2.1 0, 400, .inl f0))] U.heap := vaP_cons A_h0 (vaP_cons A_b1 vaP_nil)
  have hD := (D_tags (tl := [60, 61]) (by show [Γ h0, Γ b1] = _; rw [t_h0, t_b1]) (by decide) (by decide) : va_D (fun q => Γ q ≠ 0) [(h0, .inr (12, [.int i0, .ref b1, .int (nI n0), .int i3, .int i4, .int i5, .ref b6, .ref b7, .ref b8, .ref b9, .ref b10, .ref b11, .ref b12, .ref b13, .ref b14, .ref b15, .ref b16, .ref b17, .int i18, .int i19, .int i20, .ref b21, .ref b22, .ref b23, .ref b24, .ref b25, .ref b26, .int i27, .ref b28, .ref b29, .ref b30, .ref b31, .ref b32, .ref b33, .ref b34, .ref b35, .ref b36, .int i37, .int i38, .int i39, .int i40, .int i41, .int i42, .int i43, .int i44, .int i45, .ref b46, .ref b47, .ref b48, .ref b49, .ref b50, .ref b51, .ref b52, .ref b53, .ref b54, .ref b55, .ref b56, .ref b57, .ref b58, .ref b59, .ref b60, .ref b61, .ref b62, .ref b63])), (b1, .inl (g.2.1 0, 400, .inl f0))])
  refine ⟨_, _, MetI.room (d' := 1) (C_X12_feedB l g h0 b1 b6 b7 b8 b9 b10 b11 b12 b13 b14 b15 b16 b17 b21 b22 b23 b24 b25 b26 b28 b29 b30 b31 b32 b33 b34 b35 b36 b46 b47 b48 b49 b50 b51 b52 b53 b54 b55 b56 b57 b58 b59 b60 b61 b62 b63 i0 i3 i4 i5 i18 i19 i20 i27 i37 i38 i39 i40 i41 i42 i43 i44 i45 f0 (fun j hj => ⟨(bf j hj).2.1, (bf j hj).2.2⟩) n0 hn0 x0 x1 x2 x3 x4) (by decide) _, hP, hD, fun a o t hQ hz => ?_⟩
  obtain ⟨⟨r, u, ho, hpost, hB⟩, hF⟩ := hQ
  obtain ⟨f2, h82, rfl, rfl⟩ := hpost
  exact SQ_of (v := some (.int _)) hT hP hB.1 hD hF hz ⟨⟨rfl, rfl, _, (congrArg TS0.1 t_h0).trans rfl, ((OS.refl hv0).put (k := 0) rfl (v := .int 0) (⟨rfl, by decide, by decide⟩) (by rw [t_h0]; decide)).put (k := 2) rfl (avi_nI (lo := 0) (hi := 400) (by omega) (fdn_le9 hn0) (by decide)) (by rw [t_h0]; decide), _, rfl, Nat.le_of_ble_eq_true rfl⟩, ⟨rfl, rfl, 0, _, _, rfl, (congrArg TS0.1 t_b1).trans rfl, rfl, ⟨by decide, fun j hj => ⟨rfl, (h82 j hj).1, (h82 j hj).2⟩⟩, Or.inl (by rw [t_b1]; decide)⟩, trivial⟩ (fun hun => hT.2.keep hun (by decide)) ho ⟨fdr_av hn0, fun q hq => by cases hq⟩

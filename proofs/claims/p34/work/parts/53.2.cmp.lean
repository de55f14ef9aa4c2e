set_option maxHeartbeats 4000000 in
set_option maxRecDepth 100000 in
def spD11 : SPEC := (2, [vr 1, itop, itop, vg 0], itop, [], [], [])
theorem SX11_drawnW (l : Launch) (g : GG) (p0 p1 : Int32) (p2 : Int64) : ∀ (Γ : Nat → Nat) (h0 : Nat), UQ TS0 Γ → Γ h0 = 1 → Met l yX11_drawn (WW yX11_drawn cX11_drawn 5 (some .int)) (RM 2 0 0) (va_Pc [.ref h0, .int p0, .int p1, .long p2] (SPRE g TS0 Γ [.ref h0, .int p0, .int p1, .long p2] [])) (fun a st o t => SQ g TS0 Γ spD11 [.ref h0, .int p0, .int p1, .long p2] a st o t ∧ o = .returned (some (.int (dv p0 p1 p2)))) 0 0 (fun q => Γ q ≠ 0) := by
  intro Γ h0 hU t_h0 p e h1 h2 h3 s m args below h4 h5 h6 h7
  obtain ⟨ea, hT, hK, hTB, -⟩ := h6
  obtain ⟨vs, A_h0, hv⟩ := h_obj hT (by rw [t_h0]; decide) ((congrArg TS0.1 t_h0).trans rfl)
  have hv : VR g Γ [vr 2, vr 20, vr 21, vr 5, vr 6, vr 8, vr 9, vr 10, vr 11, vr 12, vr 13, vi 0 10, vi 0 12, itop] vs := hv
  have hv0 := hv
  obtain ⟨v0, s0, rfl, w0, hv⟩ := vr_cons hv
  obtain ⟨v1, s1, rfl, w1, hv⟩ := vr_cons hv
  obtain ⟨v2, s2, rfl, w2, hv⟩ := vr_cons hv
  obtain ⟨v3, s3, rfl, w3, hv⟩ := vr_cons hv
  obtain ⟨v4, s4, rfl, w4, hv⟩ := vr_cons hv
  obtain ⟨v5, s5, rfl, w5, hv⟩ := vr_cons hv
  obtain ⟨v6, s6, rfl, w6, hv⟩ := vr_cons hv
  obtain ⟨v7, s7, rfl, w7, hv⟩ := vr_cons hv
  obtain ⟨v8, s8, rfl, w8, hv⟩ := vr_cons hv
  obtain ⟨v9, s9, rfl, w9, hv⟩ := vr_cons hv
  obtain ⟨v10, s10, rfl, w10, hv⟩ := vr_cons hv
  obtain ⟨v11, s11, rfl, w11, hv⟩ := vr_cons hv
  obtain ⟨v12, s12, rfl, w12, hv⟩ := vr_cons hv
  obtain ⟨v13, s13, rfl, w13, hv⟩ := vr_cons hv
  obtain rfl := vr_nil hv
  obtain ⟨c0, rfl, t_c0, -⟩ := avi_ref rfl w0
  obtain ⟨c1, rfl, t_c1, -⟩ := avi_ref rfl w1
  obtain ⟨c2, rfl, t_c2, -⟩ := avi_ref rfl w2
  obtain ⟨c3, rfl, t_c3, -⟩ := avi_ref rfl w3
  obtain ⟨c4, rfl, t_c4, -⟩ := avi_ref rfl w4
  obtain ⟨c5, rfl, t_c5, -⟩ := avi_ref rfl w5
  obtain ⟨c6, rfl, t_c6, -⟩ := avi_ref rfl w6
  obtain ⟨c7, rfl, t_c7, -⟩ := avi_ref rfl w7
  obtain ⟨c8, rfl, t_c8, -⟩ := avi_ref rfl w8
  obtain ⟨c9, rfl, t_c9, -⟩ := avi_ref rfl w9
  obtain ⟨c10, rfl, t_c10, -⟩ := avi_ref rfl w10
  obtain ⟨j11, rfl, -⟩ := avi_int rfl w11
  obtain ⟨j12, rfl, -⟩ := avi_int rfl w12
  obtain ⟨j13, rfl, -⟩ := avi_int rfl w13
  have hP : va_P g.1 CLS [(h0, .inr (11, [.ref c0, .ref c1, .ref c2, .ref c3, .ref c4, .ref c5, .ref c6, .ref c7, .ref c8, .ref c9, .ref c10, .int j11, .int j12, .int j13]))] s.heap := vaP_cons A_h0 vaP_nil
  have hD := (D_tags (tl := [1]) (by show [Γ h0] = _; rw [t_h0]) (by decide) (by decide) : va_D (fun q => Γ q ≠ 0) [(h0, .inr (11, [.ref c0, .ref c1, .ref c2, .ref c3, .ref c4, .ref c5, .ref c6, .ref c7, .ref c8, .ref c9, .ref c10, .int j11, .int j12, .int j13]))])
  have hA : ∀ q, va_A [(h0, .inr (11, [.ref c0, .ref c1, .ref c2, .ref c3, .ref c4, .ref c5, .ref c6, .ref c7, .ref c8, .ref c9, .ref c10, .int j11, .int j12, .int j13]))] s.heap.size q → AA Γ s.heap.size q := fun q hq => by
    rcases hq with ⟨k, e, hq⟩ | hq
    · exact Or.inl (hD.2 k _ hq)
    · exact Or.inr hq
  obtain ⟨n, o, a1, a2, a3, a4, L, a5, a6⟩ := C_X11_drawnG l g h0 c0 c1 c2 c3 c4 c5 c6 c7 c8 c9 c10 j11 j12 j13 p0 p1 p2 s.heap.size p e h1 h2 h3 s m args below h4 h5 ⟨ea, rfl, hP, hK, hD.weaken (fun _ _ _ _ => trivial), hTB.narrow hA⟩ h7
  obtain ⟨⟨r9, u9, ho, ⟨hr9, rfl⟩, hB⟩, hF⟩ := a4
  subst hr9
  have hz := FE_size a5
  refine ⟨n, o, a1, a2, a3, ⟨?_, ho⟩, _, FE_filt a5, fun q hq => ?_⟩
  · exact SQ_of (sp := spD11) (v := some (.int (dv p0 p1 p2))) hT hP hB.1 hD hF hz ⟨⟨rfl, rfl, _, (congrArg TS0.1 t_h0).trans rfl, OS.refl hv0, _, rfl, Nat.le_of_ble_eq_true rfl⟩, trivial⟩ (fun hun => hT.2.keep hun (by decide)) ho ⟨avi_top _, fun q hq => by cases hq⟩
  · obtain ⟨q1, q2⟩ := List.mem_filter.mp hq
    have q2 := blt_lt q2
    rcases a6 q q1 with ⟨k, e, hk⟩ | hk
    · exact hD.2 k _ hk
    · omega

set_option maxHeartbeats 4000000 in
set_option maxRecDepth 100000 in
def spD12 : SPEC := (1, [vr 60, itop, itop, vg 0], itop, [], [(60, 0)], [])
theorem SX12_drawnW (l : Launch) (g : GG) (p0 p1 : Int32) (p2 : Int64) : ∀ (Γ : Nat → Nat) (h0 : Nat), UQ TS0 Γ → Γ h0 = 60 → Met l yX12_drawn (WW yX12_drawn cX12_drawn 13 (some .int)) (RM 1 0 0) (va_Pc [.ref h0, .int p0, .int p1, .long p2] (SPRE g TS0 Γ [.ref h0, .int p0, .int p1, .long p2] [])) (fun a st o t => SQ g TS0 Γ spD12 [.ref h0, .int p0, .int p1, .long p2] a st o t ∧ o = .returned (some (.int (dv p0 p1 p2)))) 0 0 (fun q => Γ q ≠ 0) := by
  intro Γ h0 hU t_h0 p e h1 h2 h3 s m args below h4 h5 h6 h7
  obtain ⟨ea, hT, hK, hTB, -⟩ := h6
  obtain ⟨vs, A_h0, hv⟩ := h_obj hT (by rw [t_h0]; decide) ((congrArg TS0.1 t_h0).trans rfl)
  have hv : VR g Γ [vi 0 1, vr 61, vi 0 400, vi 0 400, vj (-1) 400, vj (-99) 200, vr 62, vr 63, vr 64, vr 65, vr 120, vr 121, vr 66, vr 122, vr 67, vr 123, vr 68, vr 69, vi 0 10, vj (-1) 6, vj (-1) 6, vr 70, vr 71, vr 72, vr 73, vr 74, vr 75, vi 0 12, vr 76, vr 77, vr 78, vr 79, vr 80, vr 124, vr 81, vr 82, vr 125, vi 0 9, vi 0 127, vi 0 127, itop, itop, itop, vi 0 1, vi 0 127, vi 0 127, vr 83, vr 84, vr 85, vr 86, vr 126, vr 87, vr 88, vr 89, vr 90, vr 91, vr 92, vr 93, vr 94, vr 95, vr 127, vr 96, vr 97, vr 128] vs := hv
  have hv0 := hv
  obtain ⟨v0, s0, rfl, w0, hv⟩ := vr_cons hv
  obtain ⟨v1, s1, rfl, w1, hv⟩ := vr_cons hv
  obtain ⟨v2, s2, rfl, w2, hv⟩ := vr_cons hv
  obtain ⟨v3, s3, rfl, w3, hv⟩ := vr_cons hv
  obtain ⟨v4, s4, rfl, w4, hv⟩ := vr_cons hv
  obtain ⟨v5, s5, rfl, w5, hv⟩ := vr_cons hv
  obtain ⟨v6, s6, rfl, w6, hv⟩ := vr_cons hv
  obtain ⟨v7, s7, rfl, w7, hv⟩ := vr_cons hv
  obtain ⟨v8, s8, rfl, w8, hv⟩ := vr_cons hv
  obtain ⟨v9, s9, rfl, w9, hv⟩ := vr_cons hv
  obtain ⟨v10, s10, rfl, w10, hv⟩ := vr_cons hv
  obtain ⟨v11, s11, rfl, w11, hv⟩ := vr_cons hv
  obtain ⟨v12, s12, rfl, w12, hv⟩ := vr_cons hv
  obtain ⟨v13, s13, rfl, w13, hv⟩ := vr_cons hv
  obtain ⟨v14, s14, rfl, w14, hv⟩ := vr_cons hv
  obtain ⟨v15, s15, rfl, w15, hv⟩ := vr_cons hv
  obtain ⟨v16, s16, rfl, w16, hv⟩ := vr_cons hv
  obtain ⟨v17, s17, rfl, w17, hv⟩ := vr_cons hv
  obtain ⟨v18, s18, rfl, w18, hv⟩ := vr_cons hv
  obtain ⟨v19, s19, rfl, w19, hv⟩ := vr_cons hv
  obtain ⟨v20, s20, rfl, w20, hv⟩ := vr_cons hv
  obtain ⟨v21, s21, rfl, w21, hv⟩ := vr_cons hv
  obtain ⟨v22, s22, rfl, w22, hv⟩ := vr_cons hv
  obtain ⟨v23, s23, rfl, w23, hv⟩ := vr_cons hv
  obtain ⟨v24, s24, rfl, w24, hv⟩ := vr_cons hv
  obtain ⟨v25, s25, rfl, w25, hv⟩ := vr_cons hv
  obtain ⟨v26, s26, rfl, w26, hv⟩ := vr_cons hv
  obtain ⟨v27, s27, rfl, w27, hv⟩ := vr_cons hv
  obtain ⟨v28, s28, rfl, w28, hv⟩ := vr_cons hv
  obtain ⟨v29, s29, rfl, w29, hv⟩ := vr_cons hv
  obtain ⟨v30, s30, rfl, w30, hv⟩ := vr_cons hv
  obtain ⟨v31, s31, rfl, w31, hv⟩ := vr_cons hv
  obtain ⟨v32, s32, rfl, w32, hv⟩ := vr_cons hv
  obtain ⟨v33, s33, rfl, w33, hv⟩ := vr_cons hv
  obtain ⟨v34, s34, rfl, w34, hv⟩ := vr_cons hv
  obtain ⟨v35, s35, rfl, w35, hv⟩ := vr_cons hv
  obtain ⟨v36, s36, rfl, w36, hv⟩ := vr_cons hv
  obtain ⟨v37, s37, rfl, w37, hv⟩ := vr_cons hv
  obtain ⟨v38, s38, rfl, w38, hv⟩ := vr_cons hv
  obtain ⟨v39, s39, rfl, w39, hv⟩ := vr_cons hv
  obtain ⟨v40, s40, rfl, w40, hv⟩ := vr_cons hv
  obtain ⟨v41, s41, rfl, w41, hv⟩ := vr_cons hv
  obtain ⟨v42, s42, rfl, w42, hv⟩ := vr_cons hv
  obtain ⟨v43, s43, rfl, w43, hv⟩ := vr_cons hv
  obtain ⟨v44, s44, rfl, w44, hv⟩ := vr_cons hv
  obtain ⟨v45, s45, rfl, w45, hv⟩ := vr_cons hv
  obtain ⟨v46, s46, rfl, w46, hv⟩ := vr_cons hv
  obtain ⟨v47, s47, rfl, w47, hv⟩ := vr_cons hv
  obtain ⟨v48, s48, rfl, w48, hv⟩ := vr_cons hv
  obtain ⟨v49, s49, rfl, w49, hv⟩ := vr_cons hv
  obtain ⟨v50, s50, rfl, w50, hv⟩ := vr_cons hv
  obtain ⟨v51, s51, rfl, w51, hv⟩ := vr_cons hv
  obtain ⟨v52, s52, rfl, w52, hv⟩ := vr_cons hv
  obtain ⟨v53, s53, rfl, w53, hv⟩ := vr_cons hv
  obtain ⟨v54, s54, rfl, w54, hv⟩ := vr_cons hv
  obtain ⟨v55, s55, rfl, w55, hv⟩ := vr_cons hv
  obtain ⟨v56, s56, rfl, w56, hv⟩ := vr_cons hv
  obtain ⟨v57, s57, rfl, w57, hv⟩ := vr_cons hv
  obtain ⟨v58, s58, rfl, w58, hv⟩ := vr_cons hv
  obtain ⟨v59, s59, rfl, w59, hv⟩ := vr_cons hv
  obtain ⟨v60, s60, rfl, w60, hv⟩ := vr_cons hv
  obtain ⟨v61, s61, rfl, w61, hv⟩ := vr_cons hv
  obtain ⟨v62, s62, rfl, w62, hv⟩ := vr_cons hv
  obtain ⟨v63, s63, rfl, w63, hv⟩ := vr_cons hv
  obtain rfl := vr_nil hv
  obtain ⟨j0, rfl, -⟩ := avi_int rfl w0
  obtain ⟨c1, rfl, t_c1, -⟩ := avi_ref rfl w1
  obtain ⟨j2, rfl, -⟩ := avi_int rfl w2
  obtain ⟨j3, rfl, -⟩ := avi_int rfl w3
  obtain ⟨j4, rfl, -⟩ := avi_int rfl w4
  obtain ⟨j5, rfl, -⟩ := avi_int rfl w5
  obtain ⟨c6, rfl, t_c6, -⟩ := avi_ref rfl w6
  obtain ⟨c7, rfl, t_c7, -⟩ := avi_ref rfl w7
  obtain ⟨c8, rfl, t_c8, -⟩ := avi_ref rfl w8
  obtain ⟨c9, rfl, t_c9, -⟩ := avi_ref rfl w9
  obtain ⟨c10, rfl, t_c10, -⟩ := avi_ref rfl w10
  obtain ⟨c11, rfl, t_c11, -⟩ := avi_ref rfl w11
  obtain ⟨c12, rfl, t_c12, -⟩ := avi_ref rfl w12
  obtain ⟨c13, rfl, t_c13, -⟩ := avi_ref rfl w13
  obtain ⟨c14, rfl, t_c14, -⟩ := avi_ref rfl w14
  obtain ⟨c15, rfl, t_c15, -⟩ := avi_ref rfl w15
  obtain ⟨c16, rfl, t_c16, -⟩ := avi_ref rfl w16
  obtain ⟨c17, rfl, t_c17, -⟩ := avi_ref rfl w17
  obtain ⟨j18, rfl, -⟩ := avi_int rfl w18
  obtain ⟨j19, rfl, -⟩ := avi_int rfl w19
  obtain ⟨j20, rfl, -⟩ := avi_int rfl w20
  obtain ⟨c21, rfl, t_c21, -⟩ := avi_ref rfl w21
  obtain ⟨c22, rfl, t_c22, -⟩ := avi_ref rfl w22
  obtain ⟨c23, rfl, t_c23, -⟩ := avi_ref rfl w23
  obtain ⟨c24, rfl, t_c24, -⟩ := avi_ref rfl w24
  obtain ⟨c25, rfl, t_c25, -⟩ := avi_ref rfl w25
  obtain ⟨c26, rfl, t_c26, -⟩ := avi_ref rfl w26
  obtain ⟨j27, rfl, -⟩ := avi_int rfl w27
  obtain ⟨c28, rfl, t_c28, -⟩ := avi_ref rfl w28
  obtain ⟨c29, rfl, t_c29, -⟩ := avi_ref rfl w29
  obtain ⟨c30, rfl, t_c30, -⟩ := avi_ref rfl w30
  obtain ⟨c31, rfl, t_c31, -⟩ := avi_ref rfl w31
  obtain ⟨c32, rfl, t_c32, -⟩ := avi_ref rfl w32
  obtain ⟨c33, rfl, t_c33, -⟩ := avi_ref rfl w33
  obtain ⟨c34, rfl, t_c34, -⟩ := avi_ref rfl w34
  obtain ⟨c35, rfl, t_c35, -⟩ := avi_ref rfl w35
  obtain ⟨c36, rfl, t_c36, -⟩ := avi_ref rfl w36
  obtain ⟨j37, rfl, -⟩ := avi_int rfl w37
  obtain ⟨j38, rfl, -⟩ := avi_int rfl w38
  obtain ⟨j39, rfl, -⟩ := avi_int rfl w39
  obtain ⟨j40, rfl, -⟩ := avi_int rfl w40
  obtain ⟨j41, rfl, -⟩ := avi_int rfl w41
  obtain ⟨j42, rfl, -⟩ := avi_int rfl w42
  obtain ⟨j43, rfl, -⟩ := avi_int rfl w43
  obtain ⟨j44, rfl, -⟩ := avi_int rfl w44
  obtain ⟨j45, rfl, -⟩ := avi_int rfl w45
  obtain ⟨c46, rfl, t_c46, -⟩ := avi_ref rfl w46
  obtain ⟨c47, rfl, t_c47, -⟩ := avi_ref rfl w47
  obtain ⟨c48, rfl, t_c48, -⟩ := avi_ref rfl w48
  obtain ⟨c49, rfl, t_c49, -⟩ := avi_ref rfl w49
  obtain ⟨c50, rfl, t_c50, -⟩ := avi_ref rfl w50
  obtain ⟨c51, rfl, t_c51, -⟩ := avi_ref rfl w51
  obtain ⟨c52, rfl, t_c52, -⟩ := avi_ref rfl w52
  obtain ⟨c53, rfl, t_c53, -⟩ := avi_ref rfl w53
  obtain ⟨c54, rfl, t_c54, -⟩ := avi_ref rfl w54
  obtain ⟨c55, rfl, t_c55, -⟩ := avi_ref rfl w55
  obtain ⟨c56, rfl, t_c56, -⟩ := avi_ref rfl w56
  obtain ⟨c57, rfl, t_c57, -⟩ := avi_ref rfl w57
  obtain ⟨c58, rfl, t_c58, -⟩ := avi_ref rfl w58
  obtain ⟨c59, rfl, t_c59, -⟩ := avi_ref rfl w59
  obtain ⟨c60, rfl, t_c60, -⟩ := avi_ref rfl w60
  obtain ⟨c61, rfl, t_c61, -⟩ := avi_ref rfl w61
  obtain ⟨c62, rfl, t_c62, -⟩ := avi_ref rfl w62
  obtain ⟨c63, rfl, t_c63, -⟩ := avi_ref rfl w63
  have hP : va_P g.1 CLS [(h0, .inr (12, [.int j0, .ref c1, .int j2, .int j3, .int j4, .int j5, .ref c6, .ref c7, .ref c8, .ref c9, .ref c10, .ref c11, .ref c12, .ref c13, .ref c14, .ref c15, .ref c16, .ref c17, .int j18, .int j19, .int j20, .ref c21, .ref c22, .ref c23, .ref c24, .ref c25, .ref c26, .int j27, .ref c28, .ref c29, .ref c30, .ref c31, .ref c32, .ref c33, .ref c34, .ref c35, .ref c36, .int j37, .int j38, .int j39, .int j40, .int j41, .int j42, .int j43, .int j44, .int j45, .ref c46, .ref c47, .ref c48, .ref c49, .ref c50, .ref c51, .ref c52, .ref c53, .ref c54, .ref c55, .ref c56, .ref c57, .ref c58, .ref c59, .ref c60, .ref c61, .ref c62, .ref c63]))] s.heap := vaP_cons A_h0 vaP_nil
  have hD := (D_tags (tl := [60]) (by show [Γ h0] = _; rw [t_h0]) (by decide) (by decide) : va_D (fun q => Γ q ≠ 0) [(h0, .inr (12, [.int j0, .ref c1, .int j2, .int j3, .int j4, .int j5, .ref c6, .ref c7, .ref c8, .ref c9, .ref c10, .ref c11, .ref c12, .ref c13, .ref c14, .ref c15, .ref c16, .ref c17, .int j18, .int j19, .int j20, .ref c21, .ref c22, .ref c23, .ref c24, .ref c25, .ref c26, .int j27, .ref c28, .ref c29, .ref c30, .ref c31, .ref c32, .ref c33, .ref c34, .ref c35, .ref c36, .int j37, .int j38, .int j39, .int j40, .int j41, .int j42, .int j43, .int j44, .int j45, .ref c46, .ref c47, .ref c48, .ref c49, .ref c50, .ref c51, .ref c52, .ref c53, .ref c54, .ref c55, .ref c56, .ref c57, .ref c58, .ref c59, .ref c60, .ref c61, .ref c62, .ref c63]))])
  have hA : ∀ q, va_A [(h0, .inr (12, [.int j0, .ref c1, .int j2, .int j3, .int j4, .int j5, .ref c6, .ref c7, .ref c8, .ref c9, .ref c10, .ref c11, .ref c12, .ref c13, .ref c14, .ref c15, .ref c16, .ref c17, .int j18, .int j19, .int j20, .ref c21, .ref c22, .ref c23, .ref c24, .ref c25, .ref c26, .int j27, .ref c28, .ref c29, .ref c30, .ref c31, .ref c32, .ref c33, .ref c34, .ref c35, .ref c36, .int j37, .int j38, .int j39, .int j40, .int j41, .int j42, .int j43, .int j44, .int j45, .ref c46, .ref c47, .ref c48, .ref c49, .ref c50, .ref c51, .ref c52, .ref c53, .ref c54, .ref c55, .ref c56, .ref c57, .ref c58, .ref c59, .ref c60, .ref c61, .ref c62, .ref c63]))] s.heap.size q → AA Γ s.heap.size q := fun q hq => by
    rcases hq with ⟨k, e, hq⟩ | hq
    · exact Or.inl (hD.2 k _ hq)
    · exact Or.inr hq
  obtain ⟨n, o, a1, a2, a3, a4, L, a5, a6⟩ := C_X12_drawnG l g h0 c1 c6 c7 c8 c9 c10 c11 c12 c13 c14 c15 c16 c17 c21 c22 c23 c24 c25 c26 c28 c29 c30 c31 c32 c33 c34 c35 c36 c46 c47 c48 c49 c50 c51 c52 c53 c54 c55 c56 c57 c58 c59 c60 c61 c62 c63 j0 j2 j3 j4 j5 j18 j19 j20 j27 j37 j38 j39 j40 j41 j42 j43 j44 j45 p0 p1 p2 s.heap.size p e h1 h2 h3 s m args below h4 h5 ⟨ea, rfl, hP, hK, hD.weaken (fun _ _ _ _ => trivial), hTB.narrow hA⟩ h7
  obtain ⟨⟨r9, u9, ho, ⟨hr9, rfl⟩, hB⟩, hF⟩ := a4
  subst hr9
  have hz := FE_size a5
  refine ⟨n, o, a1, a2, a3, ⟨?_, ho⟩, _, FE_filt a5, fun q hq => ?_⟩
  · exact SQ_of (sp := spD12) (v := some (.int (dv p0 p1 p2))) hT hP hB.1 hD hF hz ⟨⟨rfl, rfl, _, (congrArg TS0.1 t_h0).trans rfl, ((OS.refl hv0).put (k := 0) rfl (v := .int 0) (⟨rfl, by decide, by decide⟩) (by rw [t_h0]; decide)), _, rfl, Nat.le_of_ble_eq_true rfl⟩, trivial⟩ (fun hun => hT.2.keep hun (by decide)) ho ⟨avi_top _, fun q hq => by cases hq⟩
  · obtain ⟨q1, q2⟩ := List.mem_filter.mp hq
    have q2 := blt_lt q2
    rcases a6 q q1 with ⟨k, e, hk⟩ | hk
    · exact hD.2 k _ hk
    · omega

theorem lf_of {g : GG} {H : Heap} {q n : Nat} {f : Nat → Int64} (h : va_at g.1 CLS (q, .inl (g.2.1 2, (n, .inr (.inl f)))) H) : va_at g.1 CLS (q, .inl (g.2.1 2, (n, .inr (.inl (lf ((List.range n).map f)))))) H := by
  have h0 : H[q]? = some (vp_cell (g.2.1 2) (n, .inr (.inl f))) := h
  show H[q]? = some (vp_cell (g.2.1 2) (n, .inr (.inl (lf ((List.range n).map f)))))
  rw [h0, vp_cell_l, vp_cell_l]
  unfold arrV
  congr 3
  funext j
  simp [lf]
theorem h_atL {g : GG} {ts : TS} {Γ : Nat → Nat} {H : Heap} {q n : Nat} {a : AV} (hT : HT g ts Γ H) (hq : Γ q ≠ 0) (ht : ts.1 (Γ q) = .inr (2, n, a)) : ∃ l0 : List Int64, l0.length = n ∧ va_at g.1 CLS (q, .inl (g.2.1 2, (n, .inr (.inl (lf l0))))) H := by
  obtain ⟨⟨n', f⟩, hP, rfl, hA⟩ := h_at hT hq ht
  rcases f with f | f | f | f | f
  · have hA := hA.1; omega
  · exact ⟨(List.range n').map f, by simp, lf_of (hP 0 _ rfl)⟩
  · exact hA.elim
  · exact hA.elim
  · have hA := hA.1; omega

def ndP : List Nat → Prop
  | [] => True
  | a :: r => (∀ q ∈ r, a ≠ q) ∧ ndP r
theorem ndP_inj : ∀ {l : List Nat} {i j x : Nat}, ndP l → l[i]? = some x → l[j]? = some x → i = j
  | [], i, j, x, _, h, _ => by simp at h
  | a :: r, 0, 0, x, _, _, _ => rfl
  | a :: r, 0, j + 1, x, hn, h1, h2 => by
    have e : a = x := by simpa using h1
    have h2 : r[j]? = some x := by simpa using h2
    exact absurd e (hn.1 x (List.mem_of_getElem? h2))
  | a :: r, i + 1, 0, x, hn, h1, h2 => by
    have e : a = x := by simpa using h2
    have h1 : r[i]? = some x := by simpa using h1
    exact absurd e (hn.1 x (List.mem_of_getElem? h1))
  | a :: r, i + 1, j + 1, x, hn, h1, h2 => by
    have h1 : r[i]? = some x := by simpa using h1
    have h2 : r[j]? = some x := by simpa using h2
    exact congrArg (· + 1) (ndP_inj hn.2 h1 h2)
theorem va_D_of {A : Nat → Prop} {ws : va_W} {l : List Nat} (e : ws.map (fun w => w.1) = l) (hA : ∀ q ∈ l, A q) (hn : ndP l) : va_D A ws := by
  subst e
  have key : ∀ (k : Nat) (q : Nat × va_E), ws[k]? = some q → (ws.map (fun w => w.1))[k]? = some q.1 := fun k q h => by rw [List.getElem?_map, h]; rfl
  refine ⟨fun i j p q h1 h2 h3 => ?_, fun k q h => hA _ (List.mem_of_getElem? (key k q h))⟩
  have k1 := key i p h1
  rw [h3] at k1
  exact ndP_inj hn k1 (key j q h2)

set_option maxHeartbeats 4000000 in
set_option maxRecDepth 100000 in
def spW11 : SPEC := (3, [vr 1, itop, itop, itop], (3, 0, 0), [], [(12, 0), (12, 1), (55, 0)], [])
theorem GX11_ways (l : Launch) (g : GG) (x0 m0 : Nat) (p0 p1 p2 : Int32) (Γ : Nat → Nat) (sz : Nat) (hU : UQ TS0 Γ) : Met l yX11_ways (WW yX11_ways cX11_ways 4 (some .long)) (RM 3 0 0) (va_Pc [.ref x0, .int p0, .int p1, .int p2] (GPRE g x0 m0 Γ sz [.ref x0, .int p0, .int p1, .int p2])) (fun a st o t => SQ g TS0 Γ spW11 [.ref x0, .int p0, .int p1, .int p2] a st o t ∧ LF g x0 m0 Γ t.heap ∧ o = .returned (some (.long (wv p0 p1 p2)))) 0 0 (fun q => Γ q ≠ 0) := by
  intro p e h1 h2 h3 s m args below h4 h5 h6 h7
  obtain ⟨ea, hsz, ⟨hT, hK, hTB, -⟩, hL⟩ := h6
  obtain ⟨tx, tm, hok, h13, hsp, a9, j0, j1, t9, E9, Ej0, Ej1, hne⟩ := id hL
  obtain ⟨vs, A_x0, hv⟩ := h_obj hT (by rw [tx]; decide) ((congrArg TS0.1 tx).trans rfl)
  have hv : VR g Γ [vr 2, vr 20, vr 21, vr 5, vr 6, vr 8, vr 9, vr 10, vr 11, vr 12, vr 13, vi 0 10, vi 0 12, itop] vs := hv
  have hv0 := hv
  obtain ⟨v0, s0, rfl, w0, hv⟩ := vr_cons hv
  obtain ⟨v1, s1, rfl, w1, hv⟩ := vr_cons hv
  obtain ⟨v2, s2, rfl, w2, hv⟩ := vr_cons hv
  obtain ⟨v3, s3, rfl, w3, hv⟩ := vr_cons hv
  obtain ⟨v4, s4, rfl, w4, hv⟩ := vr_cons hv
  obtain ⟨v5, s5, rfl, w5, hv⟩ := vr_cons hv
  obtain ⟨v6, s6, rfl, w6, hv⟩ := vr_cons hv
  obtain ⟨v7, s7, rfl, w7, hv⟩ := vr_cons hv
  obtain ⟨v8, s8, rfl, w8, hv⟩ := vr_cons hv
  obtain ⟨v9, s9, rfl, w9, hv⟩ := vr_cons hv
  obtain ⟨v10, s10, rfl, w10, hv⟩ := vr_cons hv
  obtain ⟨v11, s11, rfl, w11, hv⟩ := vr_cons hv
  obtain ⟨v12, s12, rfl, w12, hv⟩ := vr_cons hv
  obtain ⟨v13, s13, rfl, w13, hv⟩ := vr_cons hv
  obtain rfl := vr_nil hv
  obtain ⟨c0, rfl, t_c0, -⟩ := avi_ref rfl w0
  obtain ⟨c1, rfl, t_c1, -⟩ := avi_ref rfl w1
  obtain ⟨c2, rfl, t_c2, -⟩ := avi_ref rfl w2
  obtain ⟨c3, rfl, t_c3, -⟩ := avi_ref rfl w3
  obtain ⟨c4, rfl, t_c4, -⟩ := avi_ref rfl w4
  obtain ⟨c5, rfl, t_c5, -⟩ := avi_ref rfl w5
  obtain ⟨c6, rfl, t_c6, -⟩ := avi_ref rfl w6
  obtain ⟨c7, rfl, t_c7, -⟩ := avi_ref rfl w7
  obtain ⟨c8, rfl, t_c8, -⟩ := avi_ref rfl w8
  obtain ⟨c9, rfl, t_c9, -⟩ := avi_ref rfl w9
  obtain ⟨c10, rfl, t_c10, -⟩ := avi_ref rfl w10
  obtain ⟨j11, rfl, -⟩ := avi_int rfl w11
  obtain ⟨j12, rfl, -⟩ := avi_int rfl w12
  obtain ⟨j13, rfl, -⟩ := avi_int rfl w13
  obtain rfl : c9 = a9 := (Value.ref.inj (FE_fun (FE_at A_x0 rfl (by decide) rfl) E9))
  obtain ⟨vs, A_a9, hv⟩ := h_obj hT (by rw [t9]; decide) ((congrArg TS0.1 t9).trans rfl)
  have hv : VR g Γ [vr 55, vr 55] vs := hv
  have hv9 := hv
  obtain ⟨y0, s0, rfl, z0, hv⟩ := vr_cons hv
  obtain ⟨y1, s1, rfl, z1, hv⟩ := vr_cons hv
  obtain rfl := vr_nil hv
  obtain ⟨d0, rfl, t_0, -⟩ := avi_ref rfl z0
  obtain ⟨d1, rfl, t_1, -⟩ := avi_ref rfl z1
  have t_0 : Γ d0 = 55 := t_0
  have t_1 : Γ d1 = 55 := t_1
  obtain rfl : d0 = j0 := (Value.ref.inj (FE_fun (FE_at A_a9 rfl (by decide) rfl) Ej0))
  obtain rfl : d1 = j1 := (Value.ref.inj (FE_fun (FE_at A_a9 rfl (by decide) rfl) Ej1))
  obtain ⟨l0, hl0, A_0⟩ := h_atL hT (n := 5) (a := vg 0) (by rw [t_0]; decide) ((congrArg TS0.1 t_0).trans rfl)
  obtain ⟨l1, hl1, A_1⟩ := h_atL hT (n := 5) (a := vg 0) (by rw [t_1]; decide) ((congrArg TS0.1 t_1).trans rfl)
  have hP : va_P g.1 CLS [(x0, .inr (11, [.ref c0, .ref c1, .ref c2, .ref c3, .ref c4, .ref c5, .ref c6, .ref c7, .ref c8, .ref c9, .ref c10, .int j11, .int j12, .int j13])), (c9, .inr (2, [.ref d0, .ref d1])), (d0, .inl (g.2.1 2, 5, .inr (.inl (lf l0)))), (d1, .inl (g.2.1 2, 5, .inr (.inl (lf l1))))] s.heap := vaP_cons A_x0 (vaP_cons A_a9 (vaP_cons A_0 (vaP_cons A_1 vaP_nil)))
  have hD : va_D (fun q => Γ q ≠ 0) [(x0, .inr (11, [.ref c0, .ref c1, .ref c2, .ref c3, .ref c4, .ref c5, .ref c6, .ref c7, .ref c8, .ref c9, .ref c10, .int j11, .int j12, .int j13])), (c9, .inr (2, [.ref d0, .ref d1])), (d0, .inl (g.2.1 2, 5, .inr (.inl (lf l0)))), (d1, .inl (g.2.1 2, 5, .inr (.inl (lf l1))))] := by
    refine va_D_of (l := [x0, c9, d0, d1]) rfl ?_ ?_
    · intro q hq
      simp only [List.mem_cons, List.not_mem_nil, or_false] at hq
      rcases hq with rfl | rfl | rfl | rfl
      · rw [tx]; decide
      · rw [t9]; decide
      · rw [t_0]; decide
      · rw [t_1]; decide
    · refine ⟨?_, ?_, fun q hq e9 => hne (e9.trans (List.mem_singleton.mp hq)), fun q hq => absurd hq List.not_mem_nil, trivial⟩
      · intro q hq
        simp only [List.mem_cons, List.not_mem_nil, or_false] at hq
        rintro rfl
        rcases hq with rfl | rfl | rfl
        · rw [tx] at t9; cases t9
        · rw [tx] at t_0; cases t_0
        · rw [tx] at t_1; cases t_1
      · intro q hq
        simp only [List.mem_cons, List.not_mem_nil, or_false] at hq
        rintro rfl
        rcases hq with rfl | rfl
        · rw [t9] at t_0; cases t_0
        · rw [t9] at t_1; cases t_1
  have hA : ∀ q, va_A [(x0, .inr (11, [.ref c0, .ref c1, .ref c2, .ref c3, .ref c4, .ref c5, .ref c6, .ref c7, .ref c8, .ref c9, .ref c10, .int j11, .int j12, .int j13])), (c9, .inr (2, [.ref d0, .ref d1])), (d0, .inl (g.2.1 2, 5, .inr (.inl (lf l0)))), (d1, .inl (g.2.1 2, 5, .inr (.inl (lf l1))))] s.heap.size q → AA Γ s.heap.size q := fun q hq => by
    rcases hq with ⟨k, e, hq⟩ | hq
    · exact Or.inl (hD.2 k _ hq)
    · exact Or.inr hq
  obtain ⟨n, o, a1, a2, a3, a4, L, a5, a6⟩ := C_X11_waysG l g x0 c0 c1 c2 c3 c4 c5 c6 c7 c8 c9 c10 d0 d1 j11 j12 j13 l0 l1 hl0 hl1 p0 p1 p2 s.heap.size p e h1 h2 h3 s m args below h4 h5 ⟨ea, rfl, hP, hK, hD.weaken (fun _ _ _ _ => trivial), hTB.narrow hA⟩ h7
  obtain ⟨⟨r9, u9, ho, ⟨hr9, a, b, la, lb, hab, rfl⟩, hB⟩, hF⟩ := a4
  subst hr9
  have hz := FE_size a5
  have hP9 : ∃ lx ly lz lw : List Int64, va_P g.1 CLS [(x0, .inr (11, [.ref c0, .ref c1, .ref c2, .ref c3, .ref c4, .ref c5, .ref c6, .ref c7, .ref c8, .ref c9, .ref c10, .int j11, .int j12, .int j13])), (c9, .inr (2, [.ref a, .ref b])), (d0, .inl (g.2.1 2, 5, .inr (.inl (lf lx)))), (d1, .inl (g.2.1 2, 5, .inr (.inl (lf ly))))] (stepsAlone p.tables e n s).heap := by
    rcases hab with ⟨rfl, rfl⟩ | ⟨rfl, rfl⟩
    · exact ⟨la, lb, la, lb, hB.1⟩
    · exact ⟨lb, la, la, lb, hB.1.sub [0, 1, 3, 2] rfl⟩
  obtain ⟨lx, ly, -, -, hP9⟩ := hP9
  have tab : Γ a = 55 ∧ Γ b = 55 ∧ a ≠ b := by
    rcases hab with ⟨rfl, rfl⟩ | ⟨rfl, rfl⟩
    · exact ⟨t_0, t_1, hne⟩
    · exact ⟨t_1, t_0, Ne.symm hne⟩
  obtain ⟨ta, tb, hab9⟩ := tab
  refine ⟨n, o, a1, a2, a3, ?_, _, FE_filt a5, fun q hq => ?_⟩
  · have hS := SQ_of (sp := spW11) (As := [.ref x0, .int p0, .int p1, .int p2]) (a := args) (v := some (.long (wv p0 p1 p2))) hT hP hP9 hD hF hz ⟨⟨rfl, rfl, _, (congrArg TS0.1 tx).trans rfl, OS.refl hv0, _, rfl, Nat.le_of_ble_eq_true rfl⟩, ⟨rfl, rfl, _, (congrArg TS0.1 t9).trans rfl, ((OS.refl hv9).put (k := 0) rfl (v := .ref a) (av_ref ta (by decide)) (by rw [t9]; decide)).put (k := 1) rfl (v := .ref b) (av_ref tb (by decide)) (by rw [t9]; decide), _, rfl, Nat.le_of_ble_eq_true rfl⟩, ⟨rfl, rfl, 2, _, _, rfl, (congrArg TS0.1 t_0).trans rfl, rfl, rfl, Or.inl (by rw [t_0]; decide)⟩, ⟨rfl, rfl, 2, _, _, rfl, (congrArg TS0.1 t_1).trans rfl, rfl, rfl, Or.inl (by rw [t_1]; decide)⟩, trivial⟩ (fun hun => hT.2.keep hun (by decide)) ho ⟨⟨rfl, fun h => absurd h (by decide)⟩, fun q hq => by cases hq⟩
    obtain ⟨v5, k1, k2, k3, k4, k5, k6⟩ := id hS
    have hx9 := hP9 0 _ rfl
    have ha9 := hP9 1 _ rfl
    refine ⟨hS, ⟨tx, tm, hok, h13, fun q hq => ⟨(hsp q hq).1, k6.fld hq (by decide) rfl rfl (hsp q hq).2⟩, c9, a, b, t9, FE_at hx9 rfl (by decide) rfl, FE_at ha9 rfl (by decide) rfl, FE_at ha9 rfl (by decide) rfl, hab9⟩, ho⟩
  · obtain ⟨q1, q2⟩ := List.mem_filter.mp hq
    have q2 := blt_lt q2
    rcases a6 q q1 with ⟨k, e, hk⟩ | hk
    · exact hD.2 k _ hk
    · omega

set_option maxHeartbeats 4000000 in
set_option maxRecDepth 100000 in
def spW12 : SPEC := (5, [vr 60, itop, itop, itop], (3, 0, 0), [], [(60, 0), (95, 0), (127, 0)], [])
theorem SX12_waysW (l : Launch) (g : GG) (p0 p1 p2 : Int32) : ∀ (Γ : Nat → Nat) (h0 : Nat), UQ TS0 Γ → Γ h0 = 60 → Met l yX12_ways (WW yX12_ways cX12_ways 7 (some .long)) (RM 5 0 0) (va_Pc [.ref h0, .int p0, .int p1, .int p2] (SPRE g TS0 Γ [.ref h0, .int p0, .int p1, .int p2] [])) (fun a st o t => SQ g TS0 Γ spW12 [.ref h0, .int p0, .int p1, .int p2] a st o t ∧ o = .returned (some (.long (wv p0 p1 p2)))) 0 0 (fun q => Γ q ≠ 0) := by
  intro Γ h0 hU t_h0 p e h1 h2 h3 s m args below h4 h5 h6 h7
  obtain ⟨ea, hT, hK, hTB, -⟩ := h6
  obtain ⟨vs, A_h0, hv⟩ := h_obj hT (by rw [t_h0]; decide) ((congrArg TS0.1 t_h0).trans rfl)
  have hv : VR g Γ [vi 0 1, vr 61, vi 0 400, vi 0 400, vj (-1) 400, vj (-99) 200, vr 62, vr 63, vr 64, vr 65, vr 120, vr 121, vr 66, vr 122, vr 67, vr 123, vr 68, vr 69, vi 0 10, vj (-1) 6, vj (-1) 6, vr 70, vr 71, vr 72, vr 73, vr 74, vr 75, vi 0 12, vr 76, vr 77, vr 78, vr 79, vr 80, vr 124, vr 81, vr 82, vr 125, vi 0 9, vi 0 127, vi 0 127, itop, itop, itop, vi 0 1, vi 0 127, vi 0 127, vr 83, vr 84, vr 85, vr 86, vr 126, vr 87, vr 88, vr 89, vr 90, vr 91, vr 92, vr 93, vr 94, vr 95, vr 127, vr 96, vr 97, vr 128] vs := hv
  have hv0 := hv
  obtain ⟨v0, s0, rfl, w0, hv⟩ := vr_cons hv
  obtain ⟨v1, s1, rfl, w1, hv⟩ := vr_cons hv
  obtain ⟨v2, s2, rfl, w2, hv⟩ := vr_cons hv
  obtain ⟨v3, s3, rfl, w3, hv⟩ := vr_cons hv
  obtain ⟨v4, s4, rfl, w4, hv⟩ := vr_cons hv
  obtain ⟨v5, s5, rfl, w5, hv⟩ := vr_cons hv
  obtain ⟨v6, s6, rfl, w6, hv⟩ := vr_cons hv
  obtain ⟨v7, s7, rfl, w7, hv⟩ := vr_cons hv
  obtain ⟨v8, s8, rfl, w8, hv⟩ := vr_cons hv
  obtain ⟨v9, s9, rfl, w9, hv⟩ := vr_cons hv
  obtain ⟨v10, s10, rfl, w10, hv⟩ := vr_cons hv
  obtain ⟨v11, s11, rfl, w11, hv⟩ := vr_cons hv
  obtain ⟨v12, s12, rfl, w12, hv⟩ := vr_cons hv
  obtain ⟨v13, s13, rfl, w13, hv⟩ := vr_cons hv
  obtain ⟨v14, s14, rfl, w14, hv⟩ := vr_cons hv
  obtain ⟨v15, s15, rfl, w15, hv⟩ := vr_cons hv
  obtain ⟨v16, s16, rfl, w16, hv⟩ := vr_cons hv
  obtain ⟨v17, s17, rfl, w17, hv⟩ := vr_cons hv
  obtain ⟨v18, s18, rfl, w18, hv⟩ := vr_cons hv
  obtain ⟨v19, s19, rfl, w19, hv⟩ := vr_cons hv
  obtain ⟨v20, s20, rfl, w20, hv⟩ := vr_cons hv
  obtain ⟨v21, s21, rfl, w21, hv⟩ := vr_cons hv
  obtain ⟨v22, s22, rfl, w22, hv⟩ := vr_cons hv
  obtain ⟨v23, s23, rfl, w23, hv⟩ := vr_cons hv
  obtain ⟨v24, s24, rfl, w24, hv⟩ := vr_cons hv
  obtain ⟨v25, s25, rfl, w25, hv⟩ := vr_cons hv
  obtain ⟨v26, s26, rfl, w26, hv⟩ := vr_cons hv
  obtain ⟨v27, s27, rfl, w27, hv⟩ := vr_cons hv
  obtain ⟨v28, s28, rfl, w28, hv⟩ := vr_cons hv
  obtain ⟨v29, s29, rfl, w29, hv⟩ := vr_cons hv
  obtain ⟨v30, s30, rfl, w30, hv⟩ := vr_cons hv
  obtain ⟨v31, s31, rfl, w31, hv⟩ := vr_cons hv
  obtain ⟨v32, s32, rfl, w32, hv⟩ := vr_cons hv
  obtain ⟨v33, s33, rfl, w33, hv⟩ := vr_cons hv
  obtain ⟨v34, s34, rfl, w34, hv⟩ := vr_cons hv
  obtain ⟨v35, s35, rfl, w35, hv⟩ := vr_cons hv
  obtain ⟨v36, s36, rfl, w36, hv⟩ := vr_cons hv
  obtain ⟨v37, s37, rfl, w37, hv⟩ := vr_cons hv
  obtain ⟨v38, s38, rfl, w38, hv⟩ := vr_cons hv
  obtain ⟨v39, s39, rfl, w39, hv⟩ := vr_cons hv
  obtain ⟨v40, s40, rfl, w40, hv⟩ := vr_cons hv
  obtain ⟨v41, s41, rfl, w41, hv⟩ := vr_cons hv
  obtain ⟨v42, s42, rfl, w42, hv⟩ := vr_cons hv
  obtain ⟨v43, s43, rfl, w43, hv⟩ := vr_cons hv
  obtain ⟨v44, s44, rfl, w44, hv⟩ := vr_cons hv
  obtain ⟨v45, s45, rfl, w45, hv⟩ := vr_cons hv
  obtain ⟨v46, s46, rfl, w46, hv⟩ := vr_cons hv
  obtain ⟨v47, s47, rfl, w47, hv⟩ := vr_cons hv
  obtain ⟨v48, s48, rfl, w48, hv⟩ := vr_cons hv
  obtain ⟨v49, s49, rfl, w49, hv⟩ := vr_cons hv
  obtain ⟨v50, s50, rfl, w50, hv⟩ := vr_cons hv
  obtain ⟨v51, s51, rfl, w51, hv⟩ := vr_cons hv
  obtain ⟨v52, s52, rfl, w52, hv⟩ := vr_cons hv
  obtain ⟨v53, s53, rfl, w53, hv⟩ := vr_cons hv
  obtain ⟨v54, s54, rfl, w54, hv⟩ := vr_cons hv
  obtain ⟨v55, s55, rfl, w55, hv⟩ := vr_cons hv
  obtain ⟨v56, s56, rfl, w56, hv⟩ := vr_cons hv
  obtain ⟨v57, s57, rfl, w57, hv⟩ := vr_cons hv
  obtain ⟨v58, s58, rfl, w58, hv⟩ := vr_cons hv
  obtain ⟨v59, s59, rfl, w59, hv⟩ := vr_cons hv
  obtain ⟨v60, s60, rfl, w60, hv⟩ := vr_cons hv
  obtain ⟨v61, s61, rfl, w61, hv⟩ := vr_cons hv
  obtain ⟨v62, s62, rfl, w62, hv⟩ := vr_cons hv
  obtain ⟨v63, s63, rfl, w63, hv⟩ := vr_cons hv
  obtain rfl := vr_nil hv
  obtain ⟨i0, rfl, -⟩ := avi_int rfl w0
  obtain ⟨b1, rfl, t_b1, -⟩ := avi_ref rfl w1
  obtain ⟨i2, rfl, -⟩ := avi_int rfl w2
  obtain ⟨i3, rfl, -⟩ := avi_int rfl w3
  obtain ⟨i4, rfl, -⟩ := avi_int rfl w4
  obtain ⟨i5, rfl, -⟩ := avi_int rfl w5
  obtain ⟨b6, rfl, t_b6, -⟩ := avi_ref rfl w6
  obtain ⟨b7, rfl, t_b7, -⟩ := avi_ref rfl w7
  obtain ⟨b8, rfl, t_b8, -⟩ := avi_ref rfl w8
  obtain ⟨b9, rfl, t_b9, -⟩ := avi_ref rfl w9
  obtain ⟨b10, rfl, t_b10, -⟩ := avi_ref rfl w10
  obtain ⟨b11, rfl, t_b11, -⟩ := avi_ref rfl w11
  obtain ⟨b12, rfl, t_b12, -⟩ := avi_ref rfl w12
  obtain ⟨b13, rfl, t_b13, -⟩ := avi_ref rfl w13
  obtain ⟨b14, rfl, t_b14, -⟩ := avi_ref rfl w14
  obtain ⟨b15, rfl, t_b15, -⟩ := avi_ref rfl w15
  obtain ⟨b16, rfl, t_b16, -⟩ := avi_ref rfl w16
  obtain ⟨b17, rfl, t_b17, -⟩ := avi_ref rfl w17
  obtain ⟨i18, rfl, -⟩ := avi_int rfl w18
  obtain ⟨i19, rfl, -⟩ := avi_int rfl w19
  obtain ⟨i20, rfl, -⟩ := avi_int rfl w20
  obtain ⟨b21, rfl, t_b21, -⟩ := avi_ref rfl w21
  obtain ⟨b22, rfl, t_b22, -⟩ := avi_ref rfl w22
  obtain ⟨b23, rfl, t_b23, -⟩ := avi_ref rfl w23
  obtain ⟨b24, rfl, t_b24, -⟩ := avi_ref rfl w24
  obtain ⟨b25, rfl, t_b25, -⟩ := avi_ref rfl w25
  obtain ⟨b26, rfl, t_b26, -⟩ := avi_ref rfl w26
  obtain ⟨i27, rfl, -⟩ := avi_int rfl w27
  obtain ⟨b28, rfl, t_b28, -⟩ := avi_ref rfl w28
  obtain ⟨b29, rfl, t_b29, -⟩ := avi_ref rfl w29
  obtain ⟨b30, rfl, t_b30, -⟩ := avi_ref rfl w30
  obtain ⟨b31, rfl, t_b31, -⟩ := avi_ref rfl w31
  obtain ⟨b32, rfl, t_b32, -⟩ := avi_ref rfl w32
  obtain ⟨b33, rfl, t_b33, -⟩ := avi_ref rfl w33
  obtain ⟨b34, rfl, t_b34, -⟩ := avi_ref rfl w34
  obtain ⟨b35, rfl, t_b35, -⟩ := avi_ref rfl w35
  obtain ⟨b36, rfl, t_b36, -⟩ := avi_ref rfl w36
  obtain ⟨i37, rfl, -⟩ := avi_int rfl w37
  obtain ⟨i38, rfl, -⟩ := avi_int rfl w38
  obtain ⟨i39, rfl, -⟩ := avi_int rfl w39
  obtain ⟨i40, rfl, -⟩ := avi_int rfl w40
  obtain ⟨i41, rfl, -⟩ := avi_int rfl w41
  obtain ⟨i42, rfl, -⟩ := avi_int rfl w42
  obtain ⟨i43, rfl, -⟩ := avi_int rfl w43
  obtain ⟨i44, rfl, -⟩ := avi_int rfl w44
  obtain ⟨i45, rfl, -⟩ := avi_int rfl w45
  obtain ⟨b46, rfl, t_b46, -⟩ := avi_ref rfl w46
  obtain ⟨b47, rfl, t_b47, -⟩ := avi_ref rfl w47
  obtain ⟨b48, rfl, t_b48, -⟩ := avi_ref rfl w48
  obtain ⟨b49, rfl, t_b49, -⟩ := avi_ref rfl w49
  obtain ⟨b50, rfl, t_b50, -⟩ := avi_ref rfl w50
  obtain ⟨b51, rfl, t_b51, -⟩ := avi_ref rfl w51
  obtain ⟨b52, rfl, t_b52, -⟩ := avi_ref rfl w52
  obtain ⟨b53, rfl, t_b53, -⟩ := avi_ref rfl w53
  obtain ⟨b54, rfl, t_b54, -⟩ := avi_ref rfl w54
  obtain ⟨b55, rfl, t_b55, -⟩ := avi_ref rfl w55
  obtain ⟨b56, rfl, t_b56, -⟩ := avi_ref rfl w56
  obtain ⟨b57, rfl, t_b57, -⟩ := avi_ref rfl w57
  obtain ⟨b58, rfl, t_b58, -⟩ := avi_ref rfl w58
  obtain ⟨b59, rfl, t_b59, -⟩ := avi_ref rfl w59
  obtain ⟨b60, rfl, t_b60, -⟩ := avi_ref rfl w60
  obtain ⟨b61, rfl, t_b61, -⟩ := avi_ref rfl w61
  obtain ⟨b62, rfl, t_b62, -⟩ := avi_ref rfl w62
  obtain ⟨b63, rfl, t_b63, -⟩ := avi_ref rfl w63
  have t_b59 : Γ b59 = 95 := t_b59
  have t_b60 : Γ b60 = 127 := t_b60
  obtain ⟨ly, hly, A_0⟩ := h_atL hT (n := 16) (a := vg 0) (by rw [t_b59]; decide) ((congrArg TS0.1 t_b59).trans rfl)
  obtain ⟨ln, hln, A_1⟩ := h_atL hT (n := 16) (a := vg 0) (by rw [t_b60]; decide) ((congrArg TS0.1 t_b60).trans rfl)
  have hP : va_P g.1 CLS [(h0, .inr (12, [.int i0, .ref b1, .int i2, .int i3, .int i4, .int i5, .ref b6, .ref b7, .ref b8, .ref b9, .ref b10, .ref b11, .ref b12, .ref b13, .ref b14, .ref b15, .ref b16, .ref b17, .int i18, .int i19, .int i20, .ref b21, .ref b22, .ref b23, .ref b24, .ref b25, .ref b26, .int i27, .ref b28, .ref b29, .ref b30, .ref b31, .ref b32, .ref b33, .ref b34, .ref b35, .ref b36, .int i37, .int i38, .int i39, .int i40, .int i41, .int i42, .int i43, .int i44, .int i45, .ref b46, .ref b47, .ref b48, .ref b49, .ref b50, .ref b51, .ref b52, .ref b53, .ref b54, .ref b55, .ref b56, .ref b57, .ref b58, .ref b59, .ref b60, .ref b61, .ref b62, .ref b63])), (b59, .inl (g.2.1 2, 16, .inr (.inl (lf ly)))), (b60, .inl (g.2.1 2, 16, .inr (.inl (lf ln))))] s.heap := vaP_cons A_h0 (vaP_cons A_0 (vaP_cons A_1 vaP_nil))
  have hD := (D_tags (tl := [60, 95, 127]) (by show [Γ h0, Γ b59, Γ b60] = _; rw [t_h0, t_b59, t_b60]) (by decide) (by decide) : va_D (fun q => Γ q ≠ 0) [(h0, .inr (12, [.int i0, .ref b1, .int i2, .int i3, .int i4, .int i5, .ref b6, .ref b7, .ref b8, .ref b9, .ref b10, .ref b11, .ref b12, .ref b13, .ref b14, .ref b15, .ref b16, .ref b17, .int i18, .int i19, .int i20, .ref b21, .ref b22, .ref b23, .ref b24, .ref b25, .ref b26, .int i27, .ref b28, .ref b29, .ref b30, .ref b31, .ref b32, .ref b33, .ref b34, .ref b35, .ref b36, .int i37, .int i38, .int i39, .int i40, .int i41, .int i42, .int i43, .int i44, .int i45, .ref b46, .ref b47, .ref b48, .ref b49, .ref b50, .ref b51, .ref b52, .ref b53, .ref b54, .ref b55, .ref b56, .ref b57, .ref b58, .ref b59, .ref b60, .ref b61, .ref b62, .ref b63])), (b59, .inl (g.2.1 2, 16, .inr (.inl (lf ly)))), (b60, .inl (g.2.1 2, 16, .inr (.inl (lf ln))))])
  have hA : ∀ q, va_A [(h0, .inr (12, [.int i0, .ref b1, .int i2, .int i3, .int i4, .int i5, .ref b6, .ref b7, .ref b8, .ref b9, .ref b10, .ref b11, .ref b12, .ref b13, .ref b14, .ref b15, .ref b16, .ref b17, .int i18, .int i19, .int i20, .ref b21, .ref b22, .ref b23, .ref b24, .ref b25, .ref b26, .int i27, .ref b28, .ref b29, .ref b30, .ref b31, .ref b32, .ref b33, .ref b34, .ref b35, .ref b36, .int i37, .int i38, .int i39, .int i40, .int i41, .int i42, .int i43, .int i44, .int i45, .ref b46, .ref b47, .ref b48, .ref b49, .ref b50, .ref b51, .ref b52, .ref b53, .ref b54, .ref b55, .ref b56, .ref b57, .ref b58, .ref b59, .ref b60, .ref b61, .ref b62, .ref b63])), (b59, .inl (g.2.1 2, 16, .inr (.inl (lf ly)))), (b60, .inl (g.2.1 2, 16, .inr (.inl (lf ln))))] s.heap.size q → AA Γ s.heap.size q := fun q hq => by
    rcases hq with ⟨k, e, hq⟩ | hq
    · exact Or.inl (hD.2 k _ hq)
    · exact Or.inr hq
  obtain ⟨n, o, a1, a2, a3, a4, L, a5, a6⟩ := C_X12_waysG l g h0 b1 b6 b7 b8 b9 b10 b11 b12 b13 b14 b15 b16 b17 b21 b22 b23 b24 b25 b26 b28 b29 b30 b31 b32 b33 b34 b35 b36 b46 b47 b48 b49 b50 b51 b52 b53 b54 b55 b56 b57 b58 b59 b60 b61 b62 b63 i0 i2 i3 i4 i5 i18 i19 i20 i27 i37 i38 i39 i40 i41 i42 i43 i44 i45 ly ln hly hln p0 p1 p2 s.heap.size p e h1 h2 h3 s m args below h4 h5 ⟨ea, rfl, hP, hK, hD.weaken (fun _ _ _ _ => trivial), hTB.narrow hA⟩ h7
  obtain ⟨⟨r9, u9, ho, ⟨hr9, la, lb, rfl⟩, hB⟩, hF⟩ := a4
  subst hr9
  have hz := FE_size a5
  refine ⟨n, o, a1, a2, a3, ⟨?_, ho⟩, _, FE_filt a5, fun q hq => ?_⟩
  · exact SQ_of (sp := spW12) (v := some (.long (wv p0 p1 p2))) hT hP hB.1 hD hF hz ⟨⟨rfl, rfl, _, (congrArg TS0.1 t_h0).trans rfl, ((OS.refl hv0).put (k := 0) rfl (v := .int 0) (⟨rfl, by decide, by decide⟩) (by rw [t_h0]; decide)), _, rfl, Nat.le_of_ble_eq_true rfl⟩, ⟨rfl, rfl, 2, _, _, rfl, (congrArg TS0.1 t_b59).trans rfl, rfl, rfl, Or.inl (by rw [t_b59]; decide)⟩, ⟨rfl, rfl, 2, _, _, rfl, (congrArg TS0.1 t_b60).trans rfl, rfl, rfl, Or.inl (by rw [t_b60]; decide)⟩, trivial⟩ (fun hun => hT.2.keep hun (by decide)) ho ⟨⟨rfl, fun h => absurd h (by decide)⟩, fun q hq => by cases hq⟩
  · obtain ⟨q1, q2⟩ := List.mem_filter.mp hq
    have q2 := blt_lt q2
    rcases a6 q q1 with ⟨k, e, hk⟩ | hk
    · exact hD.2 k _ hk
    · omega

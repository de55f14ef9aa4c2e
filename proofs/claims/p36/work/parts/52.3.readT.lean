set_option maxHeartbeats 40000000 in
set_option maxRecDepth 100000 in
theorem STX8_read (l : Launch) (g : GG) : SMT l g TS0 yX8_read cX8_read 2 (some .int) pX8_read_h0 (fun _ As H w => ∀ v : Nat, As[1]? = some (.ref v) → w = .int (-1) → VSP g v H) := SMT_emb fun Γ As hU hV U hT hPF => by
  obtain ⟨v1, v2, rfl, w1, w2⟩ := VR2 (show VR g Γ [vr 2, vr 13] As from hV)
  obtain ⟨h0, rfl, t_h0, -⟩ := avi_ref rfl w1
  have t_h0 : Γ h0 = 2 := t_h0
  obtain ⟨v, rfl, t_v, -⟩ := avi_ref rfl w2
  have t_v : Γ v = 13 := t_v
  obtain ⟨q, n_, pl, A_h0, hv0, t_q⟩ := DV2 hT t_h0
  obtain ⟨pe, lc, de, v3, v4, v5, v6, v7, v8, v9, v10, v11, v12, v13, gl, v15, A_v, hv1, t_v3, t_v4, t_v5, -, -, -, t_v9, -⟩ := DV13 hT t_v
  obtain ⟨n0, rfl, -, hn0⟩ := avi_nn (VRat (k := 1) hv0 rfl rfl)
  obtain ⟨f0, A_q, bf⟩ := h_ints (g := g) (k := 1) (n := 400) (a := vi 0 255) (by decide) hT (by rw [t_q]; decide) ((congrArg TS0.1 t_q).trans rfl)
  obtain ⟨g1, A_v3, bg1⟩ := h_ints (g := g) (k := 1) (n := 4) (a := vi 0 127) (by decide) hT (by rw [t_v3]; decide) ((congrArg TS0.1 t_v3).trans rfl)
  obtain ⟨g2, A_v4, bg2⟩ := h_ints (g := g) (k := 1) (n := 4) (a := vi 0 127) (by decide) hT (by rw [t_v4]; decide) ((congrArg TS0.1 t_v4).trans rfl)
  obtain ⟨g3, A_v5, bg3⟩ := h_ints (g := g) (k := 1) (n := 4) (a := vi 0 127) (by decide) hT (by rw [t_v5]; decide) ((congrArg TS0.1 t_v5).trans rfl)
  obtain ⟨L, A_v9, bL⟩ := h_ints (g := g) (k := 1) (n := 72) (a := vj (-1) 24) (by decide) hT (by rw [t_v9]; decide) ((congrArg TS0.1 t_v9).trans rfl)
  have hL : lspF L := by
    obtain ⟨L2, e1, e2⟩ := (hT.2.1 rfl).1.1 v9 (Or.inr t_v9)
    exact fun j hj => by rw [(AT_fun A_v9 e1 hj).2]; exact e2 j hj
  obtain ⟨hfx, hrx⟩ := rdx_ok (f := f0) hn0 hL
  have hP : va_P g.1 CLS [(h0, .inr (8, [.ref q, .int (nI n0), .int pl])), (q, .inl (g.2.1 1, 400, .inl f0)), (v, .inr (10, [.int pe, .int lc, .int de, .ref v3, .ref v4, .ref v5, .ref v6, .ref v7, .ref v8, .ref v9, .ref v10, .ref v11, .ref v12, .ref v13, .int gl, .ref v15])), (v3, .inl (g.2.1 1, 4, .inl g1)), (v4, .inl (g.2.1 1, 4, .inl g2)), (v5, .inl (g.2.1 1, 4, .inl g3)), (v9, .inl (g.2.1 1, 72, .inl L))] U.heap := vaP_cons A_h0 (vaP_cons A_q (vaP_cons A_v (vaP_cons A_v3 (vaP_cons A_v4 (vaP_cons A_v5 (vaP_cons A_v9 (vaP_nil)))))))
  have hD := (D_tags (tl := [2, 22, 13, 110, 111, 112, 113]) (by show [Γ h0, Γ q, Γ v, Γ v3, Γ v4, Γ v5, Γ v9] = _; rw [t_h0, t_q, t_v, t_v3, t_v4, t_v5, t_v9]) (by decide) (by decide) : va_D (fun q => Γ q ≠ 0) [(h0, .inr (8, [.ref q, .int (nI n0), .int pl])), (q, .inl (g.2.1 1, 400, .inl f0)), (v, .inr (10, [.int pe, .int lc, .int de, .ref v3, .ref v4, .ref v5, .ref v6, .ref v7, .ref v8, .ref v9, .ref v10, .ref v11, .ref v12, .ref v13, .int gl, .ref v15])), (v3, .inl (g.2.1 1, 4, .inl g1)), (v4, .inl (g.2.1 1, 4, .inl g2)), (v5, .inl (g.2.1 1, 4, .inl g3)), (v9, .inl (g.2.1 1, 72, .inl L))])
  refine ⟨_, _, MetI.room (d' := 8) (C_X8_readG l g h0 q f0 n0 hn0 pl v v3 v4 v5 v6 v7 v8 v9 v10 v11 v12 v13 v15 pe lc de gl g1 g2 g3 L) (by decide) _, hP, hD, fun a o t hQ hz => ?_⟩
  obtain ⟨⟨r, u, ho, hpost, hB⟩, hF⟩ := hQ
  obtain ⟨rfl, rfl⟩ := hpost
  have hx : avi g Γ (vj (-1) 7) (.int (rdx n0 f0 L).2.1) ∧ ∃ p, txok p (rdx n0 f0 L).2.2 := by
    rcases hrx with ⟨h1, -, h3⟩ | ⟨p, h1, h2, h3, h4⟩
    · refine ⟨?_, 0, h3⟩
      rcases h1 with h1 | h1 <;> rw [h1] <;> exact ⟨rfl, by decide, by decide⟩
    · exact ⟨by rw [h3]; exact avle_ok (a := vi 0 7) (by decide) (avi_nI (by omega) h2 (by decide)), p, h4⟩
  obtain ⟨hpx, p, x1, x2, x3, x4, x5, x6, x7, x8⟩ := hx
  have nA9 : AT g 1 72 v9 (rdx n0 f0 L).2.2.2.2.2.2.2.2 t.heap := hB.1 6 _ rfl
  refine ⟨SQ_of (v := some (.int (rdx n0 f0 L).1)) hT hP hB.1 hD hF hz ⟨⟨rfl, rfl, _, (congrArg TS0.1 t_h0).trans rfl, (OS.refl hv0).put (k := 2) rfl (avi_nI (lo := 0) (hi := 400) (by omega) x1 (by decide)) (by rw [t_h0]; decide), _, rfl, Nat.le_of_ble_eq_true rfl⟩, ⟨rfl, rfl, 1, _, _, rfl, (congrArg TS0.1 t_q).trans rfl, rfl, ⟨by decide, bf⟩, Or.inr rfl⟩, ⟨rfl, rfl, _, (congrArg TS0.1 t_v).trans rfl, (((OS.refl hv1).put (k := 0) rfl (hpx) (by rw [t_v]; decide)).put (k := 1) rfl (avi_nI (lo := 0) (hi := 12) (by omega) x2 (by decide)) (by rw [t_v]; decide)).put (k := 2) rfl (b7_av x3) (by rw [t_v]; decide), _, rfl, Nat.le_of_ble_eq_true rfl⟩, ⟨rfl, rfl, 1, _, _, rfl, (congrArg TS0.1 t_v3).trans rfl, rfl, ar_N (by decide) (by decide) (b4_of x4), Or.inl (by rw [t_v3]; decide)⟩, ⟨rfl, rfl, 1, _, _, rfl, (congrArg TS0.1 t_v4).trans rfl, rfl, ar_N (by decide) (by decide) (b4_of x5), Or.inl (by rw [t_v4]; decide)⟩, ⟨rfl, rfl, 1, _, _, rfl, (congrArg TS0.1 t_v5).trans rfl, rfl, ar_N (by decide) (by decide) (b4_of x6), Or.inl (by rw [t_v5]; decide)⟩, ⟨rfl, rfl, 1, _, _, rfl, (congrArg TS0.1 t_v9).trans rfl, rfl, ⟨by decide, fun j hj => ⟨rfl, lsp_lo (x7 j hj).1, lsp_hi (x7 j hj).2⟩⟩, Or.inl (by rw [t_v9]; decide)⟩, trivial⟩ (fun hun => INV0 ⟨fun q2 hq2 => by
    by_cases e9 : q2 = v9
    · subst e9; exact ⟨_, nA9, x7⟩
    · obtain ⟨f2, y1, y2⟩ := (hT.2.1 rfl).1.1 q2 hq2
      refine ⟨f2, y1.kept (hF.2 q2 (hT.1 q2 (by rcases hq2 with e | e <;> rw [e] <;> decide)).lt fun hA => ?_), y2⟩
      rcases hA with ⟨k2, e2, hk2⟩ | hA
      · have hd := hD.1 k2 k2 _ _ hk2 hk2 rfl
        match k2, hk2 with
        | 0, hk2 => cases hk2; first | exact e9 rfl | (rcases hq2 with e | e <;> (rw [t_h0] at e; exact absurd e (by decide)))
        | 1, hk2 => cases hk2; first | exact e9 rfl | (rcases hq2 with e | e <;> (rw [t_q] at e; exact absurd e (by decide)))
        | 2, hk2 => cases hk2; first | exact e9 rfl | (rcases hq2 with e | e <;> (rw [t_v] at e; exact absurd e (by decide)))
        | 3, hk2 => cases hk2; first | exact e9 rfl | (rcases hq2 with e | e <;> (rw [t_v3] at e; exact absurd e (by decide)))
        | 4, hk2 => cases hk2; first | exact e9 rfl | (rcases hq2 with e | e <;> (rw [t_v4] at e; exact absurd e (by decide)))
        | 5, hk2 => cases hk2; first | exact e9 rfl | (rcases hq2 with e | e <;> (rw [t_v5] at e; exact absurd e (by decide)))
        | 6, hk2 => cases hk2; first | exact e9 rfl | (rcases hq2 with e | e <;> (rw [t_v9] at e; exact absurd e (by decide)))
      · have := (hT.1 q2 (by rcases hq2 with e | e <;> rw [e] <;> decide)).lt; omega, INV4_keep (hT.2.1 rfl).1.2 hun (by decide)⟩ (INV2_keep (hT.2.1 rfl).2.1 hun (by decide)) (INV3_keep (hT.2.1 rfl).2.2 hun (by decide))) ho ⟨f400_av hfx, fun q hq => by cases hq⟩, fun w9 hw9 v9 hv9 hr9 => ?_⟩
  cases hv9
  subst hr9
  have hr9 : (rdx n0 f0 L).1 = -1 := by
    rw [ho] at hw9
    exact Value.int.inj (Option.some.inj (Outcome.returned.inj hw9))
  rcases hrx with ⟨-, h2, -⟩ | ⟨p', h1, h2, h3, h4⟩
  · exact absurd hr9 h2
  · obtain ⟨y1, y2, y3, y4, y5, y6, y7, y8⟩ := h4
    have hV2 := hB.1 2 _ rfl
    exact ⟨p', (rdx n0 f0 L).2.2.2.1, v9, (rdx n0 f0 L).2.2.2.2.2.2.2.2, FE_at (k := 0) hV2 rfl (by decide) (congrArg (fun x => some (Value.int x)) h3), FE_at (k := 1) hV2 rfl (by decide) rfl, h2, y2, FE_at (k := 9) hV2 rfl (by decide) rfl, nA9, y8⟩

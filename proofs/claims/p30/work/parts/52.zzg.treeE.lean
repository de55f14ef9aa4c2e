set_option maxHeartbeats 8000000 in
theorem E11_treeP {l : Launch} {g : GG} {Γ : Nat → Nat} {x0 n nv np : Nat} {fb : Nat → Int32} {V : Nat → VV} (hU : UQ TS0 Γ) (hnv : nv ≤ 10) (tx : Γ x0 = 1) (p0 : Int32) (p1 : Int32) (p2 : Int32) (p3 : Int32) : EX l g yX11_tree cX11_tree 6 (some .int) pX11_tree_0 Γ [.ref x0, .int p0, .int p1, .int p2, .int p3] (fun H => RC1 g x0 n fb nv np H ∧ RCV g x0 nv V H) (fun _ v _ => v = .int (vAns nv V p0 (-1) (fun w => trA w p1 p2 p3))) :=
  EX_of (SX11_tree_0 l g) hU ⟨av_ref tx (by decide), avi_top _, avi_top _, avi_top _, avi_top _, trivial⟩ rfl fun H hT hR => by
    obtain ⟨hR, va, fA, sp, g1, g9, g10, g14, g15, g16, g17⟩ := hR
    obtain ⟨t0, tq, va', pa, sp', fA', fB, ⟨e0, eq, ea, ep, es⟩, h0, h1, h2, h3, h4, h5, h6, h7, h8, -, -, -, -, h13⟩ := hR.tags hT tx
    cases FE_fun g1 h1
    cases FE_fun g15 h3
    obtain ⟨c3, c4, c5, c6, c7, c8, c9, cc, A0⟩ := DV1 hT tx h0 h1 h2 h3 h4 h5
    rcases vin_cases (n := nv) (by omega) p0 with hb | ⟨i, hi, rfl⟩
    · refine ⟨1, _, _, by decide, K_X11_tree0 l g x0 t0 va pa c3 c4 c5 c6 c7 c8 c9 sp nv np cc fA p0 p1 p2 p3 hb, vaP_cons A0 (vaP_cons g9 vaP_nil), D_tags (tl := [1, 20]) (by show [Γ x0, Γ va] = _; rw [tx, ea]) (by decide) (by decide), fun x u H1 hp hP hz hk hT1 hun => ?_⟩
      rw [hp.1, vAns_no hb]
      rfl
    · obtain ⟨ok, v, hv, hV⟩ := g10 i hi
      have tv := RCV.tag hT tx g1 g9 (by omega) hv
      obtain ⟨s1, s2, s3, s4, s5, s6, s7, s8, s9, s10, s11⟩ := hV.tags hT tv
      obtain ⟨gl, v15, hP0⟩ := hV
      have t8 := (ref_tag (k := 8) (u := 11) hT tx (by decide) rfl rfl (FE_at (k := 8) A0 rfl (by decide) rfl)).1
      obtain ⟨gv, kn, on, yc, yt, yh, yo, A8, u51, u52, u53, u54⟩ := DV0 hT t8
      obtain ⟨tmA, BTm⟩ := ints_of hT u52 (by decide) rfl
      obtain ⟨chA, BCh⟩ := ints_of hT u53 (by decide) rfl
      obtain ⟨odA, BOd⟩ := ints_of hT u54 (by decide) rfl
      refine ⟨5, _, _, by decide, K_X11_tree1 l g x0 t0 va pa c3 c4 c5 c6 c7 c8 c9 sp nv np cc fA i gv yc yt yh yo kn on v (v + 1) (v + 2) (v + 3) (v + 4) (v + 5) (v + 6) (v + 7) (v + 8) (v + 9) (v + 10) (v + 11) v15 (V i).p (V i).lc (V i).de gl (V i).L tmA chA odA p1 p2 p3 hi hnv hv ok.1 ok.2.1, vaP_cons A0 (vaP_cons g9 (vaP_cons A8 (vaP_cons BTm (vaP_cons BCh (vaP_cons BOd (vaP_cons (hP0 0 _ rfl) (vaP_cons (hP0 7 _ rfl) vaP_nil))))))), D_tags (tl := [1, 20, 11, 52, 53, 54, 3, 25]) (by show [Γ x0, Γ va, Γ c8, Γ yt, Γ yh, Γ yo, Γ v, Γ (v + 7)] = _; rw [tx, ea, t8, u52, u53, u54, tv, s7]) (by decide) (by decide), fun x u H1 hp hP hz hk hT1 hun => ?_⟩
      exact congrArg Value.int (hp.1.trans ((tr_cls ok).trans (vAns_ok (no := -1) (f := fun w => trA w p1 p2 p3) hnv hi).symm))

set_option maxHeartbeats 8000000 in
theorem E12_treeP {l : Launch} {g : GG} {Γ : Nat → Nat} {m0 n nv np : Nat} {fb : Nat → Int32} {V : Nat → VV} (hU : UQ TS0 Γ) (hnv : nv ≤ 10) (tm : Γ m0 = 60) (p0 p1 p2 p3 : Int32) : EX l g yX12_tree cX12_tree 5 (some .int) pX12_tree_h0 Γ [.ref m0, .int p0, .int p1, .int p2, .int p3] (fun H => RR1 g m0 n fb nv np H ∧ RRV g m0 nv V H) (fun _ v _ => v = .int (vAns nv V p0 (-1) (fun w => trA w p1 p2 p3))) :=
  EX_of (SX12_tree_h0 l g) hU ⟨av_ref tm (by decide), avi_top _, avi_top _, avi_top _, avi_top _, trivial⟩ rfl fun H hT hR => by
    obtain ⟨hR, B, F, hB, hV⟩ := hR
    obtain ⟨tr, er, h1, h2, h3, h4, h5⟩ := hR.tags hT tm
    obtain ⟨ws, A0, hv⟩ := h_obj hT (by rw [tm]; decide) ((congrArg TS0.1 tm).trans rfl)
    have hlen := KV_len (KV_of hv)
    have F18 := at_fe (k := 18) A0 rfl (by rw [hlen]; decide) h3
    have G6 := at_fe (k := 6) A0 rfl (by rw [hlen]; decide) (hB 6 (by decide)).1
    have G7 := at_fe (k := 7) A0 rfl (by rw [hlen]; decide) (hB 7 (by decide)).1
    have G12 := at_fe (k := 12) A0 rfl (by rw [hlen]; decide) (hB 12 (by decide)).1
    have G13 := at_fe (k := 13) A0 rfl (by rw [hlen]; decide) (hB 13 (by decide)).1
    have G17 := at_fe (k := 17) A0 rfl (by rw [hlen]; decide) (hB 17 (by decide)).1
    have t6 : Γ (B 6) = 62 := (hB.tag hT tm (k := 6) (by decide)).1
    have t7 : Γ (B 7) = 63 := (hB.tag hT tm (k := 7) (by decide)).1
    have t12 : Γ (B 12) = 66 := (hB.tag hT tm (k := 12) (by decide)).1
    have t13 : Γ (B 13) = 122 := (hB.tag hT tm (k := 13) (by decide)).1
    have t17 : Γ (B 17) = 69 := (hB.tag hT tm (k := 17) (by decide)).1
    obtain ⟨w55, G55, a55⟩ := hv.get (k := 55) rfl
    obtain ⟨b55, rfl, t55, -⟩ := avi_ref rfl a55
    have t55 : Γ b55 = 91 := t55
    obtain ⟨gB, B55⟩ := ints_of hT t55 (by decide) rfl
    obtain ⟨w56, G56, a56⟩ := hv.get (k := 56) rfl
    obtain ⟨b56, rfl, t56, -⟩ := avi_ref rfl a56
    have t56 : Γ b56 = 92 := t56
    obtain ⟨gM, B56⟩ := ints_of hT t56 (by decide) rfl
    obtain ⟨w57, G57, a57⟩ := hv.get (k := 57) rfl
    obtain ⟨b57, rfl, t57, -⟩ := avi_ref rfl a57
    have t57 : Γ b57 = 93 := t57
    obtain ⟨gT, B57⟩ := ints_of hT t57 (by decide) rfl
    have hB9 : RNB gB := fun j hj => by
      obtain ⟨q1, q2⟩ := row_nn (hi := 6) hT t55 (show AT g 1 49 b55 gB H from B55) rfl (by omega) j hj
      exact ⟨q1, by omega⟩
    have hM9 : RNM gM := fun j hj => by
      obtain ⟨q1, q2⟩ := row_nn (hi := 6) hT t56 (show AT g 1 7 b56 gM H from B56) rfl (by omega) j hj
      exact ⟨q1, by omega⟩
    have hO9 := owb_of hT tm hB hV hnv
    have tg : [Γ m0, Γ (B 6), Γ (B 7), Γ (B 12), Γ (B 13), Γ (B 17), Γ b55, Γ b56, Γ b57] = [60, 62, 63, 66, 122, 69, 91, 92, 93] := by rw [tm, t6, t7, t12, t13, t17, t55, t56, t57]
    refine ⟨21, _, _, by decide, K_X12_tree l g m0 ws nv (B 6) (F 6) (B 7) (F 7) (B 12) (F 12) (B 13) (F 13) (B 17) (F 17) b55 gB b56 gM b57 gT p0 p1 p2 p3 hlen F18 G6 G7 G12 G13 G17 G55 G56 G57 hnv hV.lc hV.pe hB9 hM9 (fun hv9 ht9 => tr_root hV hO9 hv9 ht9), vaP_cons A0 (vaP_cons (hB 6 (by decide)).2 (vaP_cons (hB 7 (by decide)).2 (vaP_cons (hB 12 (by decide)).2 (vaP_cons (hB 13 (by decide)).2 (vaP_cons (hB 17 (by decide)).2 (vaP_cons B55 (vaP_cons B56 (vaP_cons B57 vaP_nil)))))))), D_tags (tl := [60, 62, 63, 66, 122, 69, 91, 92, 93]) tg (by decide) (by decide), fun x u H1 hp hP hz hk hT1 hun => ?_⟩
    rw [hp.1, tr_ref hnv hV hO9]

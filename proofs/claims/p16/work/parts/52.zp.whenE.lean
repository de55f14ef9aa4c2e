set_option maxHeartbeats 8000000 in
theorem E11_whenP {l : Launch} {g : GG} {Γ : Nat → Nat} {x0 n nv np : Nat} {fb : Nat → Int32} {V : Nat → VV} {P : Nat → PP} (hU : UQ TS0 Γ) (hnv : nv ≤ 10) (hnp : np ≤ 12) (hZ : PLX nv V np P) (tx : Γ x0 = 1) (p0 p1 : Int32) : EX l g yX11_when cX11_when 5 (some .int) pX11_when_0 Γ [.ref x0, .int p0, .int p1] (fun H => RC1 g x0 n fb nv np H ∧ RCV g x0 nv V H ∧ RCP g x0 np P H ∧ RYK g x0 H) (fun _ v _ => v = .int (whA np V P p0 p1)) :=
  EX_of (SX11_when_0 l g) hU ⟨av_ref tx (by decide), avi_top _, avi_top _, trivial⟩ rfl fun H hT hR => by
    obtain ⟨hR, hRV, hRP, hRY⟩ := hR
    obtain ⟨va, pa, fA, fB, k1, k9, k2, k11, k13, k14, k15⟩ := hRP
    obtain ⟨t0, tq, va'', pa', sp, fA'', fB', ⟨e0, eq, ea, ep, es⟩, h0, h1, h2, h3, h4, h5, h6, h7, h8, h9, h10, h11, h12, h13⟩ := hR.tags hT tx
    cases FE_fun k1 h1
    cases FE_fun k2 h2
    obtain ⟨c3, c4, c5, c6, c7, c8, c9, cc, A0⟩ := DV1 hT tx h0 h1 h2 h3 h4 h5
    obtain ⟨va', fA', sp', g1, g9, g10, -⟩ := hRV
    cases FE_fun k1 g1
    rcases vin_cases (n := np) (by omega) p0 with hb | ⟨i, hi, rfl⟩
    · have tg : [Γ x0, Γ pa] = [1, 21] := by rw [tx, ep]
      refine ⟨1, _, _, by decide, K_X11_when0 l g x0 t0 va pa c3 c4 c5 c6 c7 c8 c9 sp nv np cc fB p0 p1 hb, vaP_cons A0 (vaP_cons k11 vaP_nil), D_tags (tl := [1, 21]) tg (by decide) (by decide), fun x u H1 hp hP hz hk hT1 hun => ?_⟩
      rw [hp.1, whA_no hb]
      rfl
    · obtain ⟨q, v, hB, hA, hPC⟩ := k14 i hi
      obtain ⟨hv, hw⟩ := hZ.1 i hi
      obtain ⟨okV, v', hv', hVC⟩ := g10 (P i).v hv
      cases (RFA_fun k9 g9 (by omega) hA).symm.trans hv'
      have tq4 := RCP.tag hT tx k2 k11 (by omega) hB
      obtain ⟨s0, s1, s2, s3, s4, s5⟩ := hPC.tags hT tq4
      obtain ⟨y1, y2, y3, y4, y5, y6, y7, y8, y9, y10, y11⟩ := hVC.tags hT s0
      obtain ⟨gl, v15, hP0⟩ := hVC
      have AQ := hPC 0 _ rfl
      have s6 := (ref_tag (k := 7) (u := 36) hT tq4 (by decide) rfl rfl (FE_at (k := 7) AQ rfl (by decide) rfl)).1
      have s7 := (ref_tag (k := 8) (u := 37) hT tq4 (by decide) rfl rfl (FE_at (k := 8) AQ rfl (by decide) rfl)).1
      obtain ⟨W, B6⟩ := ints_of hT s6 (by decide) rfl
      obtain ⟨R, B7⟩ := ints_of hT s7 (by decide) rfl
      have hH : ∀ j : Nat, j < 40 → (P i).h j = nI (tN ((P i).h j)) ∧ tN ((P i).h j) ≤ 24 := row_nn hT s1 (show AT g 1 40 (q + 1) (P i).h H from hPC 1 _ rfl) rfl (by omega)
      have hCa : ∀ j : Nat, j < 40 → (P i).a j = nI (tN ((P i).a j)) ∧ tN ((P i).a j) < 7 := fun j hj => by
        obtain ⟨q1, q2⟩ := row_nn (hi := 6) hT s3 (show AT g 1 40 (q + 3) (P i).a H from hPC 3 _ rfl) rfl (by omega) j hj
        exact ⟨q1, by omega⟩
      obtain ⟨c3', yk, yt, r1, r2, r3, r4⟩ := hRY
      cases FE_fun r1 (FE_at (k := 3) A0 rfl (by decide) rfl)
      have t5 := RYK.tag hT tx r1
      obtain ⟨yd, yu, yb, A5, t38, t38b⟩ := DV5 hT t5 r2 r3
      obtain ⟨kN, BK⟩ := ints_of hT t38 (by decide) rfl
      obtain ⟨tO, BT⟩ := ints_of hT t38b (by decide) rfl
      have K0 : ∀ {u t : Nat}, Γ u = t → t ≠ 38 → t ≠ 24 → (if u = yt then 1001 else if u = v + 5 then 1005 else if u = v + 6 then 1006 else Γ u) = t := fun h a b => by rw [if_neg (fun q => a (by rw [← h, q, t38b])), if_neg (fun q => b (by rw [← h, q, y5])), if_neg (fun q => b (by rw [← h, q, y6])), h]
      refine ⟨6, _, _, by decide, K_X11_when1 l g x0 t0 va pa c3 c4 c5 c6 c7 c8 c9 sp nv np cc fB i q (q + 1) (q + 2) (q + 3) (q + 4) (q + 5) (q + 6) (q + 7) (P i).c v (v + 1) (v + 2) (v + 3) (v + 4) (v + 5) (v + 6) (v + 7) (v + 8) (v + 9) (v + 10) (v + 11) v15 (V (P i).v).p (nI (V (P i).v).lc) (V (P i).v).de gl yk yt yd yu yb kN tO (P i).h (P i).k (P i).a (P i).b (P i).o W R (nwr (V (P i).v).kn) (nwr (V (P i).v).mu) (nwr (V (P i).v).mn) (kx (V (P i).v)) p1 hi hnp hB hw.1 hw.2.1 hH hCa (hbj_of okV.1 hw (hZ.2.1 i hi)) okV.1, vaP_cons A0 (vaP_cons k11 (vaP_cons A5 (vaP_cons BK (vaP_cons BT (vaP_cons (hPC 0 _ rfl) (vaP_cons (hPC 1 _ rfl) (vaP_cons (hPC 2 _ rfl) (vaP_cons (hPC 3 _ rfl) (vaP_cons (hPC 4 _ rfl) (vaP_cons (hPC 5 _ rfl) (vaP_cons B6 (vaP_cons B7 (vaP_cons (hP0 0 _ rfl) (vaP_cons (hP0 4 _ rfl) (vaP_cons (hP0 5 _ rfl) (vaP_cons (hP0 6 _ rfl) (vaP_cons (hP0 8 _ rfl) vaP_nil))))))))))))))))), D_keys (K := fun u => (if u = yt then 1001 else if u = v + 5 then 1005 else if u = v + 6 then 1006 else Γ u)) (tl := [1, 21, 5, 38, 1001, 4, 31, 32, 33, 34, 35, 36, 37, 3, 24, 1005, 1006, 26]) (by
        show [(if x0 = yt then 1001 else if x0 = v + 5 then 1005 else if x0 = v + 6 then 1006 else Γ x0), (if pa = yt then 1001 else if pa = v + 5 then 1005 else if pa = v + 6 then 1006 else Γ pa), (if c3 = yt then 1001 else if c3 = v + 5 then 1005 else if c3 = v + 6 then 1006 else Γ c3), (if yk = yt then 1001 else if yk = v + 5 then 1005 else if yk = v + 6 then 1006 else Γ yk), (if yt = yt then 1001 else if yt = v + 5 then 1005 else if yt = v + 6 then 1006 else Γ yt), (if q = yt then 1001 else if q = v + 5 then 1005 else if q = v + 6 then 1006 else Γ q), (if (q + 1) = yt then 1001 else if (q + 1) = v + 5 then 1005 else if (q + 1) = v + 6 then 1006 else Γ (q + 1)), (if (q + 2) = yt then 1001 else if (q + 2) = v + 5 then 1005 else if (q + 2) = v + 6 then 1006 else Γ (q + 2)), (if (q + 3) = yt then 1001 else if (q + 3) = v + 5 then 1005 else if (q + 3) = v + 6 then 1006 else Γ (q + 3)), (if (q + 4) = yt then 1001 else if (q + 4) = v + 5 then 1005 else if (q + 4) = v + 6 then 1006 else Γ (q + 4)), (if (q + 5) = yt then 1001 else if (q + 5) = v + 5 then 1005 else if (q + 5) = v + 6 then 1006 else Γ (q + 5)), (if (q + 6) = yt then 1001 else if (q + 6) = v + 5 then 1005 else if (q + 6) = v + 6 then 1006 else Γ (q + 6)), (if (q + 7) = yt then 1001 else if (q + 7) = v + 5 then 1005 else if (q + 7) = v + 6 then 1006 else Γ (q + 7)), (if v = yt then 1001 else if v = v + 5 then 1005 else if v = v + 6 then 1006 else Γ v), (if (v + 4) = yt then 1001 else if (v + 4) = v + 5 then 1005 else if (v + 4) = v + 6 then 1006 else Γ (v + 4)), (if (v + 5) = yt then 1001 else if (v + 5) = v + 5 then 1005 else if (v + 5) = v + 6 then 1006 else Γ (v + 5)), (if (v + 6) = yt then 1001 else if (v + 6) = v + 5 then 1005 else if (v + 6) = v + 6 then 1006 else Γ (v + 6)), (if (v + 8) = yt then 1001 else if (v + 8) = v + 5 then 1005 else if (v + 8) = v + 6 then 1006 else Γ (v + 8))] = _
        rw [(K0 tx (by decide) (by decide)), (K0 ep (by decide) (by decide)), (K0 t5 (by decide) (by decide)), (show (if yk = yt then 1001 else if yk = v + 5 then 1005 else if yk = v + 6 then 1006 else Γ yk) = 38 by rw [if_neg r4, if_neg (fun q => by rw [q, y5] at t38; cases t38), if_neg (fun q => by rw [q, y6] at t38; cases t38), t38]), (if_pos rfl : (if yt = yt then 1001 else if yt = v + 5 then 1005 else if yt = v + 6 then 1006 else Γ yt) = 1001), (K0 tq4 (by decide) (by decide)), (K0 s1 (by decide) (by decide)), (K0 s2 (by decide) (by decide)), (K0 s3 (by decide) (by decide)), (K0 s4 (by decide) (by decide)), (K0 s5 (by decide) (by decide)), (K0 s6 (by decide) (by decide)), (K0 s7 (by decide) (by decide)), (K0 s0 (by decide) (by decide)), (show (if (v + 4) = yt then 1001 else if (v + 4) = v + 5 then 1005 else if (v + 4) = v + 6 then 1006 else Γ (v + 4)) = 24 by rw [if_neg (fun q => by rw [q, t38b] at y4; cases y4), if_neg (by omega), if_neg (by omega), y4]), (show (if (v + 5) = yt then 1001 else if (v + 5) = v + 5 then 1005 else if (v + 5) = v + 6 then 1006 else Γ (v + 5)) = 1005 by rw [if_neg (fun q => by rw [q, t38b] at y5; cases y5), if_pos rfl]), (show (if (v + 6) = yt then 1001 else if (v + 6) = v + 5 then 1005 else if (v + 6) = v + 6 then 1006 else Γ (v + 6)) = 1006 by rw [if_neg (fun q => by rw [q, t38b] at y6; cases y6), if_neg (by omega), if_pos rfl]), (K0 y8 (by decide) (by decide))]) (by decide) (by
        intro k w hw
        match k, hw with
        | 0, hw => cases hw; show Γ x0 ≠ 0; rw [tx]; decide
        | 1, hw => cases hw; show Γ pa ≠ 0; rw [ep]; decide
        | 2, hw => cases hw; show Γ c3 ≠ 0; rw [t5]; decide
        | 3, hw => cases hw; show Γ yk ≠ 0; rw [t38]; decide
        | 4, hw => cases hw; show Γ yt ≠ 0; rw [t38b]; decide
        | 5, hw => cases hw; show Γ q ≠ 0; rw [tq4]; decide
        | 6, hw => cases hw; show Γ (q + 1) ≠ 0; rw [s1]; decide
        | 7, hw => cases hw; show Γ (q + 2) ≠ 0; rw [s2]; decide
        | 8, hw => cases hw; show Γ (q + 3) ≠ 0; rw [s3]; decide
        | 9, hw => cases hw; show Γ (q + 4) ≠ 0; rw [s4]; decide
        | 10, hw => cases hw; show Γ (q + 5) ≠ 0; rw [s5]; decide
        | 11, hw => cases hw; show Γ (q + 6) ≠ 0; rw [s6]; decide
        | 12, hw => cases hw; show Γ (q + 7) ≠ 0; rw [s7]; decide
        | 13, hw => cases hw; show Γ v ≠ 0; rw [s0]; decide
        | 14, hw => cases hw; show Γ (v + 4) ≠ 0; rw [y4]; decide
        | 15, hw => cases hw; show Γ (v + 5) ≠ 0; rw [y5]; decide
        | 16, hw => cases hw; show Γ (v + 6) ≠ 0; rw [y6]; decide
        | 17, hw => cases hw; show Γ (v + 8) ≠ 0; rw [y8]; decide
        | k + 18, hw => cases hw), fun x u H1 hp hP hz hk hT1 hun => ?_⟩
      rw [hp.1, wh_cls hnp hi okV (hZ.2.2 _ hv) hw (hZ.2.1 i hi)]

set_option maxHeartbeats 8000000 in
theorem E12_whenP {l : Launch} {g : GG} {Γ : Nat → Nat} {m0 n nv np : Nat} {fb : Nat → Int32} {V : Nat → VV} {P : Nat → PP} (hU : UQ TS0 Γ) (hnv : nv ≤ 10) (hnp : np ≤ 12) (hZ : PLX nv V np P) (tm : Γ m0 = 60) (p0 p1 : Int32) : EX l g yX12_when cX12_when 6 (some .int) pX12_when_0 Γ [.ref m0, .int p0, .int p1] (fun H => RR1 g m0 n fb nv np H ∧ RRV g m0 nv V H ∧ RRP g m0 np P H ∧ RMM g m0 H) (fun _ v _ => v = .int (whA np V P p0 p1)) :=
  EX_of (SX12_when_0 l g) hU ⟨av_ref tm (by decide), avi_top _, avi_top _, trivial⟩ rfl fun H hT hR => by
    obtain ⟨hR, ⟨B, F, hB, hV⟩, ⟨C, G, hC, hG⟩, M19, M20⟩ := hR
    obtain ⟨tr, er, h1, h2, h3, h4, h5⟩ := hR.tags hT tm
    obtain ⟨ws, A0, hv⟩ := h_obj hT (by rw [tm]; decide) ((congrArg TS0.1 tm).trans rfl)
    have hlen := KV_len (KV_of hv)
    have F27 := at_fe (k := 27) A0 rfl (by rw [hlen]; decide) h4
    have F19 := at_fe (k := 19) A0 rfl (by rw [hlen]; decide) M19
    have F20 := at_fe (k := 20) A0 rfl (by rw [hlen]; decide) M20
    have G6 := at_fe (k := 6) A0 rfl (by rw [hlen]; decide) (hB 6 (by decide)).1
    have G7 := at_fe (k := 7) A0 rfl (by rw [hlen]; decide) (hB 7 (by decide)).1
    have G12 := at_fe (k := 12) A0 rfl (by rw [hlen]; decide) (hB 12 (by decide)).1
    have G13 := at_fe (k := 13) A0 rfl (by rw [hlen]; decide) (hB 13 (by decide)).1
    have G14 := at_fe (k := 14) A0 rfl (by rw [hlen]; decide) (hB 14 (by decide)).1
    have G15 := at_fe (k := 15) A0 rfl (by rw [hlen]; decide) (hB 15 (by decide)).1
    have G16 := at_fe (k := 16) A0 rfl (by rw [hlen]; decide) (hB 16 (by decide)).1
    have G17 := at_fe (k := 17) A0 rfl (by rw [hlen]; decide) (hB 17 (by decide)).1
    have G8 := at_fe (k := 8) A0 rfl (by rw [hlen]; decide) (hB 8 (by decide)).1
    have G9 := at_fe (k := 9) A0 rfl (by rw [hlen]; decide) (hB 9 (by decide)).1
    have G11 := at_fe (k := 11) A0 rfl (by rw [hlen]; decide) (hB 11 (by decide)).1
    have G10 := at_fe (k := 10) A0 rfl (by rw [hlen]; decide) (hB 10 (by decide)).1
    have t6 : Γ (B 6) = 62 := (hB.tag hT tm (k := 6) (by decide)).1
    have t7 : Γ (B 7) = 63 := (hB.tag hT tm (k := 7) (by decide)).1
    have t12 : Γ (B 12) = 66 := (hB.tag hT tm (k := 12) (by decide)).1
    have t13 : Γ (B 13) = 122 := (hB.tag hT tm (k := 13) (by decide)).1
    have t14 : Γ (B 14) = 67 := (hB.tag hT tm (k := 14) (by decide)).1
    have t15 : Γ (B 15) = 123 := (hB.tag hT tm (k := 15) (by decide)).1
    have t16 : Γ (B 16) = 68 := (hB.tag hT tm (k := 16) (by decide)).1
    have t17 : Γ (B 17) = 69 := (hB.tag hT tm (k := 17) (by decide)).1
    have t8 : Γ (B 8) = 64 := (hB.tag hT tm (k := 8) (by decide)).1
    have t9 : Γ (B 9) = 65 := (hB.tag hT tm (k := 9) (by decide)).1
    have t11 : Γ (B 11) = 121 := (hB.tag hT tm (k := 11) (by decide)).1
    have t10 : Γ (B 10) = 120 := (hB.tag hT tm (k := 10) (by decide)).1
    have G21 := at_fe (k := 21) A0 rfl (by rw [hlen]; decide) (hC 21 (by decide)).1
    have G22 := at_fe (k := 22) A0 rfl (by rw [hlen]; decide) (hC 22 (by decide)).1
    have G23 := at_fe (k := 23) A0 rfl (by rw [hlen]; decide) (hC 23 (by decide)).1
    have G24 := at_fe (k := 24) A0 rfl (by rw [hlen]; decide) (hC 24 (by decide)).1
    have G25 := at_fe (k := 25) A0 rfl (by rw [hlen]; decide) (hC 25 (by decide)).1
    have G26 := at_fe (k := 26) A0 rfl (by rw [hlen]; decide) (hC 26 (by decide)).1
    have t21 : Γ (C 21) = 70 := (hC.tag hT tm (k := 21) (by decide)).1
    have t22 : Γ (C 22) = 71 := (hC.tag hT tm (k := 22) (by decide)).1
    have t23 : Γ (C 23) = 72 := (hC.tag hT tm (k := 23) (by decide)).1
    have t24 : Γ (C 24) = 73 := (hC.tag hT tm (k := 24) (by decide)).1
    have t25 : Γ (C 25) = 74 := (hC.tag hT tm (k := 25) (by decide)).1
    have t26 : Γ (C 26) = 75 := (hC.tag hT tm (k := 26) (by decide)).1
    obtain ⟨w28, G28, a28⟩ := hv.get (k := 28) rfl
    obtain ⟨b28, rfl, t28, -⟩ := avi_ref rfl a28
    have t28 : Γ b28 = 76 := t28
    obtain ⟨W, B28⟩ := ints_of hT t28 (by decide) rfl
    obtain ⟨w29, G29, a29⟩ := hv.get (k := 29) rfl
    obtain ⟨b29, rfl, t29, -⟩ := avi_ref rfl a29
    have t29 : Γ b29 = 77 := t29
    obtain ⟨R, B29⟩ := ints_of hT t29 (by decide) rfl
    obtain ⟨w30, G30, a30⟩ := hv.get (k := 30) rfl
    obtain ⟨b30, rfl, t30, -⟩ := avi_ref rfl a30
    have t30 : Γ b30 = 78 := t30
    obtain ⟨A30, B30⟩ := ints_of hT t30 (by decide) rfl
    obtain ⟨w31, G31, a31⟩ := hv.get (k := 31) rfl
    obtain ⟨b31, rfl, t31, -⟩ := avi_ref rfl a31
    have t31 : Γ b31 = 79 := t31
    obtain ⟨A31, B31⟩ := ints_of hT t31 (by decide) rfl
    obtain ⟨w32, G32, a32⟩ := hv.get (k := 32) rfl
    obtain ⟨b32, rfl, t32, -⟩ := avi_ref rfl a32
    have t32 : Γ b32 = 80 := t32
    obtain ⟨A32, B32⟩ := ints_of hT t32 (by decide) rfl
    obtain ⟨w33, G33, a33⟩ := hv.get (k := 33) rfl
    obtain ⟨b33, rfl, t33, -⟩ := avi_ref rfl a33
    have t33 : Γ b33 = 124 := t33
    obtain ⟨A33, B33⟩ := ints_of hT t33 (by decide) rfl
    have tg : [Γ m0, Γ (B 6), Γ (B 7), Γ (B 12), Γ (B 13), Γ (B 14), Γ (B 15), Γ (B 16), Γ (B 17), Γ (C 21), Γ (C 22), Γ (C 23), Γ (C 24), Γ (C 25), Γ (C 26), Γ b28, Γ b29, Γ (B 8), Γ (B 9), Γ (B 11), Γ b30, Γ b31, Γ b32, Γ b33, Γ (B 10)] = [60, 62, 63, 66, 122, 67, 123, 68, 69, 70, 71, 72, 73, 74, 75, 76, 77, 64, 65, 121, 78, 79, 80, 124, 120] := by rw [tm, t6, t7, t12, t13, t14, t15, t16, t17, t21, t22, t23, t24, t25, t26, t28, t29, t8, t9, t11, t30, t31, t32, t33, t10]
    obtain ⟨e1, e2, e3, e4, e5, e6⟩ := plan_rows_ok hnv hnp hV hZ.1 hG
    refine ⟨5, _, _, by decide, K_X12_when l g m0 ws np (B 6) (F 6) (B 7) (F 7) (B 12) (F 12) (B 13) (F 13) (B 14) (F 14) (B 15) (F 15) (B 16) (F 16) (B 17) (F 17) (C 21) (G 21) (C 22) (G 22) (C 23) (G 23) (C 24) (G 24) (C 25) (G 25) (C 26) (G 26) b28 W b29 R (B 8) (F 8) (B 9) (F 9) (B 11) (F 11) b30 A30 b31 A31 b32 A32 b33 A33 (B 10) (F 10) p0 p1 hlen F27 G6 G7 G12 G13 G14 G15 G16 G17 G21 G22 G23 G24 G25 G26 G28 G29 G8 G9 G11 G30 G31 G32 G33 G10 F19 F20 hnp e1 e2 e3 e4 e5 e6, vaP_cons A0 (vaP_cons (hB 6 (by decide)).2 (vaP_cons (hB 7 (by decide)).2 (vaP_cons (hB 12 (by decide)).2 (vaP_cons (hB 13 (by decide)).2 (vaP_cons (hB 14 (by decide)).2 (vaP_cons (hB 15 (by decide)).2 (vaP_cons (hB 16 (by decide)).2 (vaP_cons (hB 17 (by decide)).2 (vaP_cons (hC 21 (by decide)).2 (vaP_cons (hC 22 (by decide)).2 (vaP_cons (hC 23 (by decide)).2 (vaP_cons (hC 24 (by decide)).2 (vaP_cons (hC 25 (by decide)).2 (vaP_cons (hC 26 (by decide)).2 (vaP_cons B28 (vaP_cons B29 (vaP_cons (hB 8 (by decide)).2 (vaP_cons (hB 9 (by decide)).2 (vaP_cons (hB 11 (by decide)).2 (vaP_cons B30 (vaP_cons B31 (vaP_cons B32 (vaP_cons B33 (vaP_cons (hB 10 (by decide)).2 vaP_nil)))))))))))))))))))))))), D_tags (tl := [60, 62, 63, 66, 122, 67, 123, 68, 69, 70, 71, 72, 73, 74, 75, 76, 77, 64, 65, 121, 78, 79, 80, 124, 120]) tg (by decide) (by decide), fun x u H1 hp hP hz hk hT1 hun => ?_⟩
    rw [hp.1, wh_ref hnv hnp hV (owb_of hT tm hB hV hnv) hZ hG]

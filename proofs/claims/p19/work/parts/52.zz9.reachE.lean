theorem DV7 {g : GG} {Γ : Nat → Nat} {H : Heap} {c : Nat} (hT : HT g TS0 Γ H) (hc : Γ c = 6) : ∃ (zr zc ze1 ze2 ze3 ze4 ze5 ze6 : Nat) (zp zd zt zm zi0 zi1 zi2 zi3 zi4 : Int32), va_at g.1 CLS (c, .inr (7, [.ref zr, .int zp, .int zd, .int zt, .int zm, .ref zc, .ref ze1, .ref ze2, .ref ze3, .ref ze4, .ref ze5, .ref ze6, .int zi0, .int zi1, .int zi2, .int zi3, .int zi4])) H ∧ Γ zc = 39 := by
  obtain ⟨vs, A, hv⟩ := h_obj hT (by rw [hc]; decide) ((congrArg TS0.1 hc).trans rfl)
  obtain ⟨w0, s0, rfl, a0, hv⟩ := vr_cons hv
  obtain ⟨w1, s1, rfl, a1, hv⟩ := vr_cons hv
  obtain ⟨w2, s2, rfl, a2, hv⟩ := vr_cons hv
  obtain ⟨w3, s3, rfl, a3, hv⟩ := vr_cons hv
  obtain ⟨w4, s4, rfl, a4, hv⟩ := vr_cons hv
  obtain ⟨w5, s5, rfl, a5, hv⟩ := vr_cons hv
  obtain ⟨w6, s6, rfl, a6, hv⟩ := vr_cons hv
  obtain ⟨w7, s7, rfl, a7, hv⟩ := vr_cons hv
  obtain ⟨w8, s8, rfl, a8, hv⟩ := vr_cons hv
  obtain ⟨w9, s9, rfl, a9, hv⟩ := vr_cons hv
  obtain ⟨w10, s10, rfl, a10, hv⟩ := vr_cons hv
  obtain ⟨w11, s11, rfl, a11, hv⟩ := vr_cons hv
  obtain ⟨w12, s12, rfl, a12, hv⟩ := vr_cons hv
  obtain ⟨w13, s13, rfl, a13, hv⟩ := vr_cons hv
  obtain ⟨w14, s14, rfl, a14, hv⟩ := vr_cons hv
  obtain ⟨w15, s15, rfl, a15, hv⟩ := vr_cons hv
  obtain ⟨w16, s16, rfl, a16, hv⟩ := vr_cons hv
  obtain rfl := vr_nil hv
  obtain ⟨c0, rfl, t0, -⟩ := avi_ref rfl a0
  obtain ⟨i1, rfl, -⟩ := avi_int rfl a1
  obtain ⟨i2, rfl, -⟩ := avi_int rfl a2
  obtain ⟨i3, rfl, -⟩ := avi_int rfl a3
  obtain ⟨i4, rfl, -⟩ := avi_int rfl a4
  obtain ⟨c5, rfl, t5, -⟩ := avi_ref rfl a5
  obtain ⟨c6, rfl, t6, -⟩ := avi_ref rfl a6
  obtain ⟨c7, rfl, t7, -⟩ := avi_ref rfl a7
  obtain ⟨c8, rfl, t8, -⟩ := avi_ref rfl a8
  obtain ⟨c9, rfl, t9, -⟩ := avi_ref rfl a9
  obtain ⟨c10, rfl, t10, -⟩ := avi_ref rfl a10
  obtain ⟨c11, rfl, t11, -⟩ := avi_ref rfl a11
  obtain ⟨i12, rfl, -⟩ := avi_int rfl a12
  obtain ⟨i13, rfl, -⟩ := avi_int rfl a13
  obtain ⟨i14, rfl, -⟩ := avi_int rfl a14
  obtain ⟨i15, rfl, -⟩ := avi_int rfl a15
  obtain ⟨i16, rfl, -⟩ := avi_int rfl a16
  exact ⟨c0, c5, c6, c7, c8, c9, c10, c11, i1, i2, i3, i4, i12, i13, i14, i15, i16, A, t5⟩
set_option maxHeartbeats 8000000 in
theorem E11_reachP {l : Launch} {g : GG} {Γ : Nat → Nat} {x0 n nv np : Nat} {fb : Nat → Int32} {V : Nat → VV} (hU : UQ TS0 Γ) (hnv : nv ≤ 10) (tx : Γ x0 = 1) (p0 : Int32) (p1 : Int32) (p2 : Int32) (p3 : Int32) : EX l g yX11_reach cX11_reach 6 (some .int) pX11_reach_0 Γ [.ref x0, .int p0, .int p1, .int p2, .int p3] (fun H => RC1 g x0 n fb nv np H ∧ RCV g x0 nv V H) (fun _ v _ => v = .int (vAns nv V p0 (-1) (fun w => rcH w p1 p2 p3))) :=
  EX_of (SX11_reach_0 l g) hU ⟨av_ref tx (by decide), avi_top _, avi_top _, avi_top _, avi_top _, trivial⟩ rfl fun H hT hR => by
    obtain ⟨hR, va, fA, sp, g1, g9, g10, g14, g15, g16, g17⟩ := hR
    obtain ⟨t0, tq, va', pa, sp', fA', fB, ⟨e0, eq, ea, ep, es⟩, h0, h1, h2, h3, h4, h5, h6, h7, h8, -, -, -, -, h13⟩ := hR.tags hT tx
    cases FE_fun g1 h1
    cases FE_fun g15 h3
    obtain ⟨c3, c4, c5, c6, c7, c8, c9, cc, A0⟩ := DV1 hT tx h0 h1 h2 h3 h4 h5
    rcases vin_cases (n := nv) (by omega) p0 with hb | ⟨i, hi, rfl⟩
    · refine ⟨1, _, _, by decide, K_X11_reach0 l g x0 t0 va pa c3 c4 c5 c6 c7 c8 c9 sp nv np cc fA p0 p1 p2 p3 hb, vaP_cons A0 (vaP_cons g9 vaP_nil), D_tags (tl := [1, 20]) (by show [Γ x0, Γ va] = _; rw [tx, ea]) (by decide) (by decide), fun x u H1 hp hP hz hk hT1 hun => ?_⟩
      rw [hp.1, vAns_no hb]
      rfl
    · obtain ⟨ok, v, hv, hV⟩ := g10 i hi
      have tv := RCV.tag hT tx g1 g9 (by omega) hv
      obtain ⟨s1, s2, s3, s4, s5, s6, s7, s8, s9, s10, s11⟩ := hV.tags hT tv
      obtain ⟨gl, v15, hP0⟩ := hV
      have t4 := (ref_tag (k := 4) (u := 6) hT tx (by decide) rfl rfl (FE_at (k := 4) A0 rfl (by decide) rfl)).1
      obtain ⟨zr, zc, ze1, ze2, ze3, ze4, ze5, ze6, zp, zd, zt, zm, zi0, zi1, zi2, zi3, zi4, A4, u39⟩ := DV7 hT t4
      obtain ⟨cA, BC⟩ := ints_of hT u39 (by decide) rfl
      refine ⟨3, _, _, by decide, K_X11_reach1 l g x0 t0 va pa c3 c4 c5 c6 c7 c8 c9 sp nv np cc fA i zr zc ze1 ze2 ze3 ze4 ze5 ze6 zp zd zt zm zi0 zi1 zi2 zi3 zi4 cA v (v + 1) (v + 2) (v + 3) (v + 4) (v + 5) (v + 6) (v + 7) (v + 8) (v + 9) (v + 10) (v + 11) v15 (V i).p (nI (V i).lc) (V i).de gl (V i).kn (V i).mu (V i).mn (kx (V i)) p1 p2 p3 hi hnv hv ok.1, vaP_cons A0 (vaP_cons g9 (vaP_cons A4 (vaP_cons BC (vaP_cons (hP0 0 _ rfl) (vaP_cons (hP0 1 _ rfl) (vaP_cons (hP0 2 _ rfl) (vaP_cons (hP0 3 _ rfl) (vaP_cons (hP0 8 _ rfl) vaP_nil)))))))), D_keys (K := K23 Γ v) (tl := [1, 20, 6, 39, 3, 1001, 1002, 1003, 26]) (by show [K23 Γ v x0, K23 Γ v va, K23 Γ v c4, K23 Γ v zc, K23 Γ v v, K23 Γ v (v + 1), K23 Γ v (v + 2), K23 Γ v (v + 3), K23 Γ v (v + 8)] = _; rw [key23 tx s1 s2 s3 (by decide), key23 ea s1 s2 s3 (by decide), key23 t4 s1 s2 s3 (by decide), key23 u39 s1 s2 s3 (by decide), key23 tv s1 s2 s3 (by decide), show K23 Γ v (v + 1) = 1001 from if_pos rfl, show K23 Γ v (v + 2) = 1002 from (if_neg (by omega)).trans (if_pos rfl), show K23 Γ v (v + 3) = 1003 from (if_neg (by omega)).trans ((if_neg (by omega)).trans (if_pos rfl)), key23 s8 s1 s2 s3 (by decide)]) (by decide) (fun k w hw => by
        match k, hw with
        | 0, hw => cases hw; show Γ x0 ≠ 0; rw [tx]; decide
        | 1, hw => cases hw; show Γ va ≠ 0; rw [ea]; decide
        | 2, hw => cases hw; show Γ c4 ≠ 0; rw [t4]; decide
        | 3, hw => cases hw; show Γ zc ≠ 0; rw [u39]; decide
        | 4, hw => cases hw; show Γ v ≠ 0; rw [tv]; decide
        | 5, hw => cases hw; show Γ (v + 1) ≠ 0; rw [s1]; decide
        | 6, hw => cases hw; show Γ (v + 2) ≠ 0; rw [s2]; decide
        | 7, hw => cases hw; show Γ (v + 3) ≠ 0; rw [s3]; decide
        | 8, hw => cases hw; show Γ (v + 8) ≠ 0; rw [s8]; decide
        | k + 9, hw => cases hw), fun x u H1 hp hP hz hk hT1 hun => ?_⟩
      exact congrArg Value.int (hp.1.trans ((rc_cls ok).trans (vAns_ok (no := -1) (f := fun w => rcH w p1 p2 p3) hnv hi).symm))

set_option maxHeartbeats 8000000 in
theorem E12_reachP {l : Launch} {g : GG} {Γ : Nat → Nat} {m0 n nv np : Nat} {fb : Nat → Int32} {V : Nat → VV} (hU : UQ TS0 Γ) (hnv : nv ≤ 10) (hN : ∀ i : Nat, i < nv → NLP (V i)) (tm : Γ m0 = 60) (p0 p1 p2 p3 : Int32) : EX l g yX12_reach cX12_reach 9 (some .int) pX12_reach_0 Γ [.ref m0, .int p0, .int p1, .int p2, .int p3] (fun H => RR1 g m0 n fb nv np H ∧ RRV g m0 nv V H) (fun _ v _ => v = .int (vAns nv V p0 (-1) (fun w => rcH w p1 p2 p3))) :=
  EX_of (SX12_reach_0 l g) hU ⟨av_ref tm (by decide), avi_top _, avi_top _, avi_top _, avi_top _, trivial⟩ rfl fun H hT hR => by
    obtain ⟨hR, B, F, hB, hV⟩ := hR
    obtain ⟨tr, er, h1, h2, h3, h4, h5⟩ := hR.tags hT tm
    obtain ⟨ws, A0, hv⟩ := h_obj hT (by rw [tm]; decide) ((congrArg TS0.1 tm).trans rfl)
    have hlen := KV_len (KV_of hv)
    have F18 := at_fe (k := 18) A0 rfl (by rw [hlen]; decide) h3
    have G7 := at_fe (k := 7) A0 rfl (by rw [hlen]; decide) (hB 7 (by decide)).1
    have G9 := at_fe (k := 9) A0 rfl (by rw [hlen]; decide) (hB 9 (by decide)).1
    have G11 := at_fe (k := 11) A0 rfl (by rw [hlen]; decide) (hB 11 (by decide)).1
    have G12 := at_fe (k := 12) A0 rfl (by rw [hlen]; decide) (hB 12 (by decide)).1
    have G13 := at_fe (k := 13) A0 rfl (by rw [hlen]; decide) (hB 13 (by decide)).1
    have G14 := at_fe (k := 14) A0 rfl (by rw [hlen]; decide) (hB 14 (by decide)).1
    have G15 := at_fe (k := 15) A0 rfl (by rw [hlen]; decide) (hB 15 (by decide)).1
    have G16 := at_fe (k := 16) A0 rfl (by rw [hlen]; decide) (hB 16 (by decide)).1
    have G17 := at_fe (k := 17) A0 rfl (by rw [hlen]; decide) (hB 17 (by decide)).1
    have t7 : Γ (B 7) = 63 := (hB.tag hT tm (k := 7) (by decide)).1
    have t9 : Γ (B 9) = 65 := (hB.tag hT tm (k := 9) (by decide)).1
    have t11 : Γ (B 11) = 121 := (hB.tag hT tm (k := 11) (by decide)).1
    have t12 : Γ (B 12) = 66 := (hB.tag hT tm (k := 12) (by decide)).1
    have t13 : Γ (B 13) = 122 := (hB.tag hT tm (k := 13) (by decide)).1
    have t14 : Γ (B 14) = 67 := (hB.tag hT tm (k := 14) (by decide)).1
    have t15 : Γ (B 15) = 123 := (hB.tag hT tm (k := 15) (by decide)).1
    have t16 : Γ (B 16) = 68 := (hB.tag hT tm (k := 16) (by decide)).1
    have t17 : Γ (B 17) = 69 := (hB.tag hT tm (k := 17) (by decide)).1
    have tg : [Γ m0, Γ (B 7), Γ (B 9), Γ (B 11), Γ (B 12), Γ (B 13), Γ (B 14), Γ (B 15), Γ (B 16), Γ (B 17)] = [60, 63, 65, 121, 66, 122, 67, 123, 68, 69] := by rw [tm, t7, t9, t11, t12, t13, t14, t15, t16, t17]
    refine ⟨3, _, _, by decide, K_X12_reach l g m0 ws nv (B 7) (F 7) (B 9) (F 9) (B 11) (F 11) (B 12) (F 12) (B 13) (F 13) (B 14) (F 14) (B 15) (F 15) (B 16) (F 16) (B 17) (F 17) p0 p1 p2 p3 hlen F18 G7 G9 G11 G12 G13 G14 G15 G16 G17 hnv hV.lc, vaP_cons A0 (vaP_cons (hB 7 (by decide)).2 (vaP_cons (hB 9 (by decide)).2 (vaP_cons (hB 11 (by decide)).2 (vaP_cons (hB 12 (by decide)).2 (vaP_cons (hB 13 (by decide)).2 (vaP_cons (hB 14 (by decide)).2 (vaP_cons (hB 15 (by decide)).2 (vaP_cons (hB 16 (by decide)).2 (vaP_cons (hB 17 (by decide)).2 vaP_nil))))))))), D_tags (tl := [60, 63, 65, 121, 66, 122, 67, 123, 68, 69]) tg (by decide) (by decide), fun x u H1 hp hP hz hk hT1 hun => ?_⟩
    rw [hp.1, rc_ref hnv hV (owb_of hT tm hB hV hnv) hN (fun i hi => (hN i hi).2)]

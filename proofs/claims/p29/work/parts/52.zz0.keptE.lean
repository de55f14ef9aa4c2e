theorem DV0 {g : GG} {Γ : Nat → Nat} {H : Heap} {c : Nat} (hT : HT g TS0 Γ H) (hc : Γ c = 11) : ∃ (gv : Value) (kn on : Int32) (yc yt yh yo : Nat), va_at g.1 CLS (c, .inr (0, [gv, .int kn, .int on, .ref yc, .ref yt, .ref yh, .ref yo])) H ∧ Γ yc = 51 ∧ Γ yt = 52 ∧ Γ yh = 53 ∧ Γ yo = 54 := by
  obtain ⟨vs, A, hv⟩ := h_obj hT (by rw [hc]; decide) ((congrArg TS0.1 hc).trans rfl)
  obtain ⟨w0, s0, rfl, a0, hv⟩ := vr_cons hv
  obtain ⟨w1, s1, rfl, a1, hv⟩ := vr_cons hv
  obtain ⟨w2, s2, rfl, a2, hv⟩ := vr_cons hv
  obtain ⟨w3, s3, rfl, a3, hv⟩ := vr_cons hv
  obtain ⟨w4, s4, rfl, a4, hv⟩ := vr_cons hv
  obtain ⟨w5, s5, rfl, a5, hv⟩ := vr_cons hv
  obtain ⟨w6, s6, rfl, a6, hv⟩ := vr_cons hv
  obtain rfl := vr_nil hv
  obtain ⟨kn, rfl, -⟩ := avi_int rfl a1
  obtain ⟨on, rfl, -⟩ := avi_int rfl a2
  obtain ⟨c3, rfl, t3, -⟩ := avi_ref rfl a3
  obtain ⟨c4, rfl, t4, -⟩ := avi_ref rfl a4
  obtain ⟨c5, rfl, t5, -⟩ := avi_ref rfl a5
  obtain ⟨c6, rfl, t6, -⟩ := avi_ref rfl a6
  exact ⟨w0, kn, on, c3, c4, c5, c6, A, t3, t4, t5, t6⟩
set_option maxHeartbeats 8000000 in
theorem E11_keptP {l : Launch} {g : GG} {Γ : Nat → Nat} {x0 n nv np : Nat} {fb : Nat → Int32} {V : Nat → VV} (hU : UQ TS0 Γ) (hnv : nv ≤ 10) (tx : Γ x0 = 1) (p0 : Int32) (p1 : Int32) : EX l g yX11_kept cX11_kept 4 (some .int) pX11_kept_0 Γ [.ref x0, .int p0, .int p1] (fun H => RC1 g x0 n fb nv np H ∧ RCV g x0 nv V H) (fun _ v _ => v = .int (vAns nv V p0 (-1) (fun w => ktA w p1))) :=
  EX_of (SX11_kept_0 l g) hU ⟨av_ref tx (by decide), avi_top _, avi_top _, trivial⟩ rfl fun H hT hR => by
    obtain ⟨hR, va, fA, sp, g1, g9, g10, g14, g15, g16, g17⟩ := hR
    obtain ⟨t0, tq, va', pa, sp', fA', fB, ⟨e0, eq, ea, ep, es⟩, h0, h1, h2, h3, h4, h5, h6, h7, h8, -, -, -, -, h13⟩ := hR.tags hT tx
    cases FE_fun g1 h1
    cases FE_fun g15 h3
    obtain ⟨c3, c4, c5, c6, c7, c8, c9, cc, A0⟩ := DV1 hT tx h0 h1 h2 h3 h4 h5
    rcases vin_cases (n := nv) (by omega) p0 with hb | ⟨i, hi, rfl⟩
    · refine ⟨1, _, _, by decide, K_X11_kept0 l g x0 t0 va pa c3 c4 c5 c6 c7 c8 c9 sp nv np cc fA p0 p1 hb, vaP_cons A0 (vaP_cons g9 vaP_nil), D_tags (tl := [1, 20]) (by show [Γ x0, Γ va] = _; rw [tx, ea]) (by decide) (by decide), fun x u H1 hp hP hz hk hT1 hun => ?_⟩
      rw [hp.1, vAns_no hb]
      rfl
    · obtain ⟨ok, v, hv, hV⟩ := g10 i hi
      have tv := RCV.tag hT tx g1 g9 (by omega) hv
      obtain ⟨s1, s2, s3, s4, s5, s6, s7, s8, s9, s10, s11⟩ := hV.tags hT tv
      obtain ⟨gl, v15, hP0⟩ := hV
      have t8 := (ref_tag (k := 8) (u := 11) hT tx (by decide) rfl rfl (FE_at (k := 8) A0 rfl (by decide) rfl)).1
      obtain ⟨gv, kn, on, yc, yt, yh, yo, A8, u51, u52, u53, u54⟩ := DV0 hT t8
      obtain ⟨cN, BC⟩ := ints_of hT u51 (by decide) rfl
      refine ⟨3, _, _, by decide, K_X11_kept1 l g x0 t0 va pa c3 c4 c5 c6 c7 c8 c9 sp nv np cc fA i gv yc yt yh yo kn on cN v (v + 1) (v + 2) (v + 3) (v + 4) (v + 5) (v + 6) (v + 7) (v + 8) (v + 9) (v + 10) (v + 11) v15 (V i).p (nI (V i).lc) (V i).de gl (kx (V i)) (V i).cd (V i).cl p1 hi hnv hv ok.1 ok.2.2.2, vaP_cons A0 (vaP_cons g9 (vaP_cons A8 (vaP_cons BC (vaP_cons (hP0 0 _ rfl) (vaP_cons (hP0 8 _ rfl) (vaP_cons (hP0 9 _ rfl) (vaP_cons (hP0 10 _ rfl) vaP_nil))))))), D_tags (tl := [1, 20, 11, 51, 3, 26, 27, 28]) (by show [Γ x0, Γ va, Γ c8, Γ yc, Γ v, Γ (v + 8), Γ (v + 9), Γ (v + 10)] = _; rw [tx, ea, t8, u51, tv, s8, s9, s10]) (by decide) (by decide), fun x u H1 hp hP hz hk hT1 hun => ?_⟩
      exact congrArg Value.int (hp.1.trans (kt_cls.trans (vAns_ok (no := -1) (f := fun w => ktA w p1) hnv hi).symm))

set_option maxHeartbeats 8000000 in
theorem E12_keptP {l : Launch} {g : GG} {Γ : Nat → Nat} {m0 n nv np : Nat} {fb : Nat → Int32} {V : Nat → VV} (hU : UQ TS0 Γ) (hnv : nv ≤ 10) (tm : Γ m0 = 60) (p0 p1 : Int32) : EX l g yX12_kept cX12_kept 10 (some .int) pX12_kept_h0 Γ [.ref m0, .int p0, .int p1] (fun H => RR1 g m0 n fb nv np H ∧ RRV g m0 nv V H ∧ RMM g m0 H) (fun _ v _ => v = .int (vAns nv V p0 (-1) (fun w => ktA w p1))) :=
  EX_of (SX12_kept_h0 l g) hU ⟨av_ref tm (by decide), avi_top _, avi_top _, trivial⟩ rfl fun H hT hR => by
    obtain ⟨hR, ⟨B, F, hB, hV⟩, M19, M20⟩ := hR
    obtain ⟨tr, er, h1, h2, h3, h4, h5⟩ := hR.tags hT tm
    obtain ⟨ws, A0, hv⟩ := h_obj hT (by rw [tm]; decide) ((congrArg TS0.1 tm).trans rfl)
    have hlen := KV_len (KV_of hv)
    have F18 := at_fe (k := 18) A0 rfl (by rw [hlen]; decide) h3
    have F19 := at_fe (k := 19) A0 rfl (by rw [hlen]; decide) M19
    have F20 := at_fe (k := 20) A0 rfl (by rw [hlen]; decide) M20
    have G6 := at_fe (k := 6) A0 rfl (by rw [hlen]; decide) (hB 6 (by decide)).1
    have G7 := at_fe (k := 7) A0 rfl (by rw [hlen]; decide) (hB 7 (by decide)).1
    have G8 := at_fe (k := 8) A0 rfl (by rw [hlen]; decide) (hB 8 (by decide)).1
    have G12 := at_fe (k := 12) A0 rfl (by rw [hlen]; decide) (hB 12 (by decide)).1
    have G13 := at_fe (k := 13) A0 rfl (by rw [hlen]; decide) (hB 13 (by decide)).1
    have G14 := at_fe (k := 14) A0 rfl (by rw [hlen]; decide) (hB 14 (by decide)).1
    have G15 := at_fe (k := 15) A0 rfl (by rw [hlen]; decide) (hB 15 (by decide)).1
    have G16 := at_fe (k := 16) A0 rfl (by rw [hlen]; decide) (hB 16 (by decide)).1
    have G17 := at_fe (k := 17) A0 rfl (by rw [hlen]; decide) (hB 17 (by decide)).1
    have G52 := at_fe (k := 52) A0 rfl (by rw [hlen]; decide) (hB 52 (by decide)).1
    have G53 := at_fe (k := 53) A0 rfl (by rw [hlen]; decide) (hB 53 (by decide)).1
    have t6 : Γ (B 6) = 62 := (hB.tag hT tm (k := 6) (by decide)).1
    have t7 : Γ (B 7) = 63 := (hB.tag hT tm (k := 7) (by decide)).1
    have t8 : Γ (B 8) = 64 := (hB.tag hT tm (k := 8) (by decide)).1
    have t12 : Γ (B 12) = 66 := (hB.tag hT tm (k := 12) (by decide)).1
    have t13 : Γ (B 13) = 122 := (hB.tag hT tm (k := 13) (by decide)).1
    have t14 : Γ (B 14) = 67 := (hB.tag hT tm (k := 14) (by decide)).1
    have t15 : Γ (B 15) = 123 := (hB.tag hT tm (k := 15) (by decide)).1
    have t16 : Γ (B 16) = 68 := (hB.tag hT tm (k := 16) (by decide)).1
    have t17 : Γ (B 17) = 69 := (hB.tag hT tm (k := 17) (by decide)).1
    have t52 : Γ (B 52) = 88 := (hB.tag hT tm (k := 52) (by decide)).1
    have t53 : Γ (B 53) = 89 := (hB.tag hT tm (k := 53) (by decide)).1
    obtain ⟨w54, G54, a54⟩ := hv.get (k := 54) rfl
    obtain ⟨b54, rfl, t54, -⟩ := avi_ref rfl a54
    have t54 : Γ b54 = 90 := t54
    obtain ⟨gN, B54⟩ := ints_of hT t54 (by decide) rfl
    have hcL : ∀ j : Nat, j < 77 → F 53 j = nI (tN (F 53 j)) ∧ tN (F 53 j) ≤ 6 := row_nn hT t53 (show AT g 1 77 (B 53) (F 53) H from (hB 53 (by decide)).2) rfl (by omega)
    have hcD : ∀ j : Nat, j < 420 → F 52 j = nI (tN (F 52 j)) ∧ tN (F 52 j) < 7 := fun j hj => by
      obtain ⟨q1, q2⟩ := row_nn (hi := 6) hT t52 (show AT g 1 420 (B 52) (F 52) H from (hB 52 (by decide)).2) rfl (by omega) j hj
      exact ⟨q1, by omega⟩
    have tg : [Γ m0, Γ (B 6), Γ (B 7), Γ (B 8), Γ (B 12), Γ (B 13), Γ (B 14), Γ (B 15), Γ (B 16), Γ (B 17), Γ (B 52), Γ (B 53), Γ b54] = [60, 62, 63, 64, 66, 122, 67, 123, 68, 69, 88, 89, 90] := by rw [tm, t6, t7, t8, t12, t13, t14, t15, t16, t17, t52, t53, t54]
    refine ⟨2, _, _, by decide, K_X12_kept l g m0 ws nv (B 6) (F 6) (B 7) (F 7) (B 8) (F 8) (B 12) (F 12) (B 13) (F 13) (B 14) (F 14) (B 15) (F 15) (B 16) (F 16) (B 17) (F 17) (B 52) (F 52) (B 53) (F 53) b54 gN p0 p1 hlen F18 G6 G7 G8 G12 G13 G14 G15 G16 G17 G52 G53 G54 F19 F20 hnv hV.lc hV.pe hcL hcD, vaP_cons A0 (vaP_cons (hB 6 (by decide)).2 (vaP_cons (hB 7 (by decide)).2 (vaP_cons (hB 8 (by decide)).2 (vaP_cons (hB 12 (by decide)).2 (vaP_cons (hB 13 (by decide)).2 (vaP_cons (hB 14 (by decide)).2 (vaP_cons (hB 15 (by decide)).2 (vaP_cons (hB 16 (by decide)).2 (vaP_cons (hB 17 (by decide)).2 (vaP_cons (hB 52 (by decide)).2 (vaP_cons (hB 53 (by decide)).2 (vaP_cons B54 vaP_nil)))))))))))), D_tags (tl := [60, 62, 63, 64, 66, 122, 67, 123, 68, 69, 88, 89, 90]) tg (by decide) (by decide), fun x u H1 hp hP hz hk hT1 hun => ?_⟩
    rw [hp.1, kt_ref hnv hV (owb_of hT tm hB hV hnv) hcD]

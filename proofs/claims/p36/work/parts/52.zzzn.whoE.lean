set_option maxHeartbeats 8000000 in
theorem E11_whoK {l : Launch} {g : GG} {Γ : Nat → Nat} {x0 n nv np : Nat} {fb : Nat → Int32} {V : Nat → VV} (hU : UQ TS0 Γ) (hnv : nv ≤ 10) (tx : Γ x0 = 1) (p0 : Int32) (p1 : Int32) : EX l g yX11_who cX11_who 6 (some .int) pX11_who_0 Γ [.ref x0, .int p0, .int p1] (fun H => RC1 g x0 n fb nv np H ∧ RCV g x0 nv V H ∧ RYK g x0 H) (fun _ v H1 => v = .int (vAns nv V p0 (-1) (fun w => woA w p1)) ∧ RYK g x0 H1) :=
  EX_of (SX11_who_0 l g) hU ⟨av_ref tx (by decide), avi_top _, avi_top _, trivial⟩ rfl fun H hT hR => by
    obtain ⟨hC, hD, hRY⟩ := hR
    have hR := And.intro hC hD
    obtain ⟨hR, va, fA, sp, g1, g9, g10, g14, g15, g16, g17⟩ := hR
    obtain ⟨t0, tq, va', pa, sp', fA', fB, ⟨e0, eq, ea, ep, es⟩, h0, h1, h2, h3, h4, h5, h6, h7, h8, -, -, -, -, h13⟩ := hR.tags hT tx
    cases FE_fun g1 h1
    cases FE_fun g15 h3
    obtain ⟨c3, c4, c5, c6, c7, c8, c9, cc, A0⟩ := DV1 hT tx h0 h1 h2 h3 h4 h5
    rcases vin_cases (n := nv) (by omega) p0 with hb | ⟨i, hi, rfl⟩
    · have tg : [Γ x0, Γ va] = [1, 20] := by rw [tx, ea]
      refine ⟨1, _, _, by decide, K_X11_who0 l g x0 t0 va pa c3 c4 c5 c6 c7 c8 c9 sp nv np cc fA p0 p1 hb, vaP_cons A0 (vaP_cons g9 vaP_nil), D_tags (tl := [1, 20]) tg (by decide) (by decide), fun x u H1 hp hP hz hk hT1 hun => ?_⟩
      obtain ⟨hx, rfl⟩ := hp
      have lt : ∀ {q t : Nat}, Γ q = t → t ≠ 0 → q < H.size := fun h h0 => hT.lt (by rw [h]; exact h0)
      obtain ⟨z7, e71, e72, e73, e74, e75, e76, pw, sa0, w0, w1⟩ := hRY.2
      have tz := PWX.tag hT tx w0
      have t40 := PWX.tag1 hT tz w1.1
      have t41 := PWX.tag2 hT tz w1.2.1
      cases FE_fun w0 (FE_at (k := 4) A0 rfl (by decide) rfl)
      have hY : RYK g x0 H1 := ⟨hRY.1.keep hT tx hun rfl, PWX.same (FE_at (k := 4) (hP 0 _ rfl) rfl (by decide) rfl) w1 (hk _ (lt tz (by decide)) (nin_tag (tl := [1, 20]) tg tz rfl (lt tz (by decide)))) (hk _ (lt t40 (by decide)) (nin_tag (tl := [1, 20]) tg t40 rfl (lt t40 (by decide)))) (hk _ (lt t41 (by decide)) (nin_tag (tl := [1, 20]) tg t41 rfl (lt t41 (by decide))))⟩
      exact ⟨by rw [hx, vAns_no hb]; rfl, hY⟩
    · obtain ⟨ok, v, hv, hV⟩ := g10 i hi
      have tv := RCV.tag hT tx g1 g9 (by omega) hv
      obtain ⟨s1, s2, s3, s4, s5, s6, s7, s8, s9, s10, s11⟩ := hV.tags hT tv
      obtain ⟨gl, v15, hP0⟩ := hV
      obtain ⟨z7, ze1, ze2, ze3, ze4, ze5, ze6, pw, sa0, w0, w1, w2, w3, w4, w5, w6, wA, wS, wP, wT, w34, w56⟩ := hRY.2
      cases FE_fun w0 (FE_at (k := 4) A0 rfl (by decide) rfl)
      have tz := PWX.tag hT tx w0
      obtain ⟨zr, zc, ye1, ye2, ye3, ye4, ye5, ye6, zp, zd, zt, zm, zi0, zi1, zi2, zi3, zi4, AZ, tr7, t39, t40, t41, t42, t42b, t43, t43b⟩ := DV7b hT tz
      cases FE_fun w1 (FE_at (k := 6) AZ rfl (by decide) rfl)
      cases FE_fun w2 (FE_at (k := 7) AZ rfl (by decide) rfl)
      cases FE_fun w3 (FE_at (k := 8) AZ rfl (by decide) rfl)
      cases FE_fun w4 (FE_at (k := 9) AZ rfl (by decide) rfl)
      cases FE_fun w5 (FE_at (k := 10) AZ rfl (by decide) rfl)
      cases FE_fun w6 (FE_at (k := 11) AZ rfl (by decide) rfl)
      obtain ⟨qo, qh, rc, rp, fS, fO, fM, fC, AR, t44, t45, t46, t47, B44, B45, B46, B47, hRI⟩ := DV5r hT tr7
      obtain ⟨cA, B39⟩ := ints_of hT t39 (by decide) rfl
      obtain ⟨ct, B42⟩ := ints_of hT t42 (by decide) rfl
      obtain ⟨gd, B42b⟩ := ints_of hT t42b (by decide) rfl
      obtain ⟨nw, B43⟩ := ints_of hT t43 (by decide) rfl
      obtain ⟨nx, B43b⟩ := ints_of hT t43b (by decide) rfl
      have hpw : ∀ j : Nat, j < 128 → pw j = nI (tN (pw j)) ∧ tN (pw j) ≤ 1093 := row_nn hT t40 wA rfl (by omega)
      have hta : ∀ j : Nat, j < 28 → (V i).ta j ≤ 24 := ta_24 hT s11 (show AT g 1 28 (v + 11) (V i).ta H from hP0 11 _ rfl)
      refine ⟨14, _, _, by decide, K_X11_who1 l g x0 t0 va pa c3 c4 c5 c6 c7 c8 c9 sp nv np cc fA i zr zc ze1 ze2 ze3 ze4 ze5 ze6 zp zd zt zm zi0 zi1 zi2 zi3 zi4 cA pw ct nw nx (zr + 1) qo (zr + 3) qh fS fO fM fC rc rp v (v + 1) (v + 2) (v + 3) (v + 4) (v + 5) (v + 6) (v + 7) (v + 8) (v + 9) (v + 10) (v + 11) v15 (V i).p (nI (V i).lc) (V i).de gl (V i).mu (V i).mn (kx (V i)) (V i).ta p1 hi hnv hv ok.1 hpw hRI hta, vaP_cons A0 (vaP_cons g9 (vaP_cons AZ (vaP_cons B39 (vaP_cons wA (vaP_cons B42 (vaP_cons B43 (vaP_cons B43b (vaP_cons AR (vaP_cons B44 (vaP_cons B45 (vaP_cons B46 (vaP_cons B47 (vaP_cons (hP0 0 _ rfl) (vaP_cons (hP0 2 _ rfl) (vaP_cons (hP0 3 _ rfl) (vaP_cons (hP0 8 _ rfl) (vaP_cons (hP0 11 _ rfl) vaP_nil))))))))))))))))), D_keys (K := fun u => (if u = ze6 then 1001 else if u = (v + 3) then 1002 else Γ u)) (tl := [1, 20, 6, 39, 40, 42, 43, 1001, 7, 44, 45, 46, 47, 3, 23, 1002, 26, 29]) (by
        show [(if x0 = ze6 then 1001 else if x0 = (v + 3) then 1002 else Γ x0), (if va = ze6 then 1001 else if va = (v + 3) then 1002 else Γ va), (if c4 = ze6 then 1001 else if c4 = (v + 3) then 1002 else Γ c4), (if zc = ze6 then 1001 else if zc = (v + 3) then 1002 else Γ zc), (if ze1 = ze6 then 1001 else if ze1 = (v + 3) then 1002 else Γ ze1), (if ze3 = ze6 then 1001 else if ze3 = (v + 3) then 1002 else Γ ze3), (if ze5 = ze6 then 1001 else if ze5 = (v + 3) then 1002 else Γ ze5), (if ze6 = ze6 then 1001 else if ze6 = (v + 3) then 1002 else Γ ze6), (if zr = ze6 then 1001 else if zr = (v + 3) then 1002 else Γ zr), (if (zr + 1) = ze6 then 1001 else if (zr + 1) = (v + 3) then 1002 else Γ (zr + 1)), (if qo = ze6 then 1001 else if qo = (v + 3) then 1002 else Γ qo), (if (zr + 3) = ze6 then 1001 else if (zr + 3) = (v + 3) then 1002 else Γ (zr + 3)), (if qh = ze6 then 1001 else if qh = (v + 3) then 1002 else Γ qh), (if v = ze6 then 1001 else if v = (v + 3) then 1002 else Γ v), (if (v + 2) = ze6 then 1001 else if (v + 2) = (v + 3) then 1002 else Γ (v + 2)), (if (v + 3) = ze6 then 1001 else if (v + 3) = (v + 3) then 1002 else Γ (v + 3)), (if (v + 8) = ze6 then 1001 else if (v + 8) = (v + 3) then 1002 else Γ (v + 8)), (if (v + 11) = ze6 then 1001 else if (v + 11) = (v + 3) then 1002 else Γ (v + 11))] = _
        rw [(show (if x0 = ze6 then 1001 else if x0 = (v + 3) then 1002 else Γ x0) = 1 by rw [if_neg (nt_ne tx t43b (by decide)), if_neg (nt_ne tx s3 (by decide)), tx]), (show (if va = ze6 then 1001 else if va = (v + 3) then 1002 else Γ va) = 20 by rw [if_neg (nt_ne ea t43b (by decide)), if_neg (nt_ne ea s3 (by decide)), ea]), (show (if c4 = ze6 then 1001 else if c4 = (v + 3) then 1002 else Γ c4) = 6 by rw [if_neg (nt_ne tz t43b (by decide)), if_neg (nt_ne tz s3 (by decide)), tz]), (show (if zc = ze6 then 1001 else if zc = (v + 3) then 1002 else Γ zc) = 39 by rw [if_neg (nt_ne t39 t43b (by decide)), if_neg (nt_ne t39 s3 (by decide)), t39]), (show (if ze1 = ze6 then 1001 else if ze1 = (v + 3) then 1002 else Γ ze1) = 40 by rw [if_neg (nt_ne t40 t43b (by decide)), if_neg (nt_ne t40 s3 (by decide)), t40]), (show (if ze3 = ze6 then 1001 else if ze3 = (v + 3) then 1002 else Γ ze3) = 42 by rw [if_neg (nt_ne t42 t43b (by decide)), if_neg (nt_ne t42 s3 (by decide)), t42]), (show (if ze5 = ze6 then 1001 else if ze5 = (v + 3) then 1002 else Γ ze5) = 43 by rw [if_neg (w56), if_neg (nt_ne t43 s3 (by decide)), t43]), (show (if ze6 = ze6 then 1001 else if ze6 = (v + 3) then 1002 else Γ ze6) = 1001 by rw [if_pos rfl]), (show (if zr = ze6 then 1001 else if zr = (v + 3) then 1002 else Γ zr) = 7 by rw [if_neg (nt_ne tr7 t43b (by decide)), if_neg (nt_ne tr7 s3 (by decide)), tr7]), (show (if (zr + 1) = ze6 then 1001 else if (zr + 1) = (v + 3) then 1002 else Γ (zr + 1)) = 44 by rw [if_neg (nt_ne t44 t43b (by decide)), if_neg (nt_ne t44 s3 (by decide)), t44]), (show (if qo = ze6 then 1001 else if qo = (v + 3) then 1002 else Γ qo) = 45 by rw [if_neg (nt_ne t45 t43b (by decide)), if_neg (nt_ne t45 s3 (by decide)), t45]), (show (if (zr + 3) = ze6 then 1001 else if (zr + 3) = (v + 3) then 1002 else Γ (zr + 3)) = 46 by rw [if_neg (nt_ne t46 t43b (by decide)), if_neg (nt_ne t46 s3 (by decide)), t46]), (show (if qh = ze6 then 1001 else if qh = (v + 3) then 1002 else Γ qh) = 47 by rw [if_neg (nt_ne t47 t43b (by decide)), if_neg (nt_ne t47 s3 (by decide)), t47]), (show (if v = ze6 then 1001 else if v = (v + 3) then 1002 else Γ v) = 3 by rw [if_neg (nt_ne tv t43b (by decide)), if_neg (nt_ne tv s3 (by decide)), tv]), (show (if (v + 2) = ze6 then 1001 else if (v + 2) = (v + 3) then 1002 else Γ (v + 2)) = 23 by rw [if_neg (nt_ne s2 t43b (by decide)), if_neg (by omega), s2]), (show (if (v + 3) = ze6 then 1001 else if (v + 3) = (v + 3) then 1002 else Γ (v + 3)) = 1002 by rw [if_neg (nt_ne s3 t43b (by decide)), if_pos rfl]), (show (if (v + 8) = ze6 then 1001 else if (v + 8) = (v + 3) then 1002 else Γ (v + 8)) = 26 by rw [if_neg (nt_ne s8 t43b (by decide)), if_neg (nt_ne s8 s3 (by decide)), s8]), (show (if (v + 11) = ze6 then 1001 else if (v + 11) = (v + 3) then 1002 else Γ (v + 11)) = 29 by rw [if_neg (nt_ne s11 t43b (by decide)), if_neg (nt_ne s11 s3 (by decide)), s11])]) (by decide) (by
        intro k w hw
        match k, hw with
        | 0, hw => cases hw; show Γ x0 ≠ 0; rw [tx]; decide
        | 1, hw => cases hw; show Γ va ≠ 0; rw [ea]; decide
        | 2, hw => cases hw; show Γ c4 ≠ 0; rw [tz]; decide
        | 3, hw => cases hw; show Γ zc ≠ 0; rw [t39]; decide
        | 4, hw => cases hw; show Γ ze1 ≠ 0; rw [t40]; decide
        | 5, hw => cases hw; show Γ ze3 ≠ 0; rw [t42]; decide
        | 6, hw => cases hw; show Γ ze5 ≠ 0; rw [t43]; decide
        | 7, hw => cases hw; show Γ ze6 ≠ 0; rw [t43b]; decide
        | 8, hw => cases hw; show Γ zr ≠ 0; rw [tr7]; decide
        | 9, hw => cases hw; show Γ (zr + 1) ≠ 0; rw [t44]; decide
        | 10, hw => cases hw; show Γ qo ≠ 0; rw [t45]; decide
        | 11, hw => cases hw; show Γ (zr + 3) ≠ 0; rw [t46]; decide
        | 12, hw => cases hw; show Γ qh ≠ 0; rw [t47]; decide
        | 13, hw => cases hw; show Γ v ≠ 0; rw [tv]; decide
        | 14, hw => cases hw; show Γ (v + 2) ≠ 0; rw [s2]; decide
        | 15, hw => cases hw; show Γ (v + 3) ≠ 0; rw [s3]; decide
        | 16, hw => cases hw; show Γ (v + 8) ≠ 0; rw [s8]; decide
        | 17, hw => cases hw; show Γ (v + 11) ≠ 0; rw [s11]; decide
        | k + 18, hw => cases hw), fun x u H1 hp hP hz hk hT1 hun => ?_⟩
      obtain ⟨hx, rfl⟩ := hp
      have hY : RYK g x0 H1 := ⟨hRY.1.keep hT tx hun rfl, c4, ze1, ze2, ze3, ze4, _, _, pw, sa0, FE_at (k := 4) (hP 0 _ rfl) rfl (by decide) rfl, FE_at (k := 6) (hP 2 _ rfl) rfl (by decide) rfl, FE_at (k := 7) (hP 2 _ rfl) rfl (by decide) rfl, FE_at (k := 8) (hP 2 _ rfl) rfl (by decide) rfl, FE_at (k := 9) (hP 2 _ rfl) rfl (by decide) rfl, FE_at (k := 10) (hP 2 _ rfl) rfl (by decide) rfl, FE_at (k := 11) (hP 2 _ rfl) rfl (by decide) rfl, hP 4 _ rfl, va_at.kept wS (hun.arr t41 (by decide) rfl (mdn_at (l := [(41, 0)]) rfl (by decide))), wP, wT, w34, PQ.ne w56 (wh_pq ok.1 hta hRI)⟩
      exact ⟨congrArg Value.int (hx.trans ((wo_cls ok wP (ta_tw hT s11 (show AT g 1 28 (v + 11) (V i).ta H from hP0 11 _ rfl)) hRI).trans (vAns_ok (no := -1) (f := fun w => woA w p1) hnv hi).symm)), hY⟩

set_option maxHeartbeats 8000000 in
theorem E12_whoP {l : Launch} {g : GG} {Γ : Nat → Nat} {m0 n nv np : Nat} {fb : Nat → Int32} {V : Nat → VV} (hU : UQ TS0 Γ) (hnv : nv ≤ 10) (tm : Γ m0 = 60) (p0 p1 : Int32) : EX l g yX12_who cX12_who 5 (some .int) pX12_who_0 Γ [.ref m0, .int p0, .int p1] (fun H => RR1 g m0 n fb nv np H ∧ RRV g m0 nv V H ∧ RMM g m0 H) (fun _ v _ => v = .int (vAns nv V p0 (-1) (fun w => woA w p1))) :=
  EX_of (SX12_who_0 l g) hU ⟨av_ref tm (by decide), avi_top _, avi_top _, trivial⟩ rfl fun H hT hR => by
    obtain ⟨hR, ⟨B, F, hB, hV⟩, M19, M20⟩ := hR
    obtain ⟨tr, er, h1, h2, h3, h4, h5⟩ := hR.tags hT tm
    obtain ⟨ws, A0, hv⟩ := h_obj hT (by rw [tm]; decide) ((congrArg TS0.1 tm).trans rfl)
    have hlen := KV_len (KV_of hv)
    have F18 := at_fe (k := 18) A0 rfl (by rw [hlen]; decide) h3
    by_cases hbad : F_X12_isAsked nv p0 p1 = 0
    · refine ⟨3, _, _, by decide, K_X12_who0 l g m0 ws nv p0 p1 hlen F18 hnv hbad, vaP_cons A0 vaP_nil, D_tags (tl := [60]) (by show [Γ m0] = _; rw [tm]) (by decide) (by decide), fun x u H1 hp hP hz hk hT1 hun => ?_⟩
      rw [hp.1, wh0_val, wh_bad hnv hbad]
    · obtain ⟨⟨dx1, dx2⟩, dy1, dy2⟩ := ia_at hnv hbad
      obtain ⟨i, hi, rfl⟩ : ∃ i : Nat, i < nv ∧ p0 = nI i := ⟨tN p0, dx2, dx1⟩
      obtain ⟨ni, hni, rfl⟩ : ∃ i : Nat, i < 4 ∧ p1 = nI i := ⟨tN p1, dy2, dy1⟩
      have F19 := at_fe (k := 19) A0 rfl (by rw [hlen]; decide) M19
      have F20 := at_fe (k := 20) A0 rfl (by rw [hlen]; decide) M20
      have G6 := at_fe (k := 6) A0 rfl (by rw [hlen]; decide) (hB 6 (by decide)).1
      have G7 := at_fe (k := 7) A0 rfl (by rw [hlen]; decide) (hB 7 (by decide)).1
      have G8 := at_fe (k := 8) A0 rfl (by rw [hlen]; decide) (hB 8 (by decide)).1
      have G11 := at_fe (k := 11) A0 rfl (by rw [hlen]; decide) (hB 11 (by decide)).1
      have G12 := at_fe (k := 12) A0 rfl (by rw [hlen]; decide) (hB 12 (by decide)).1
      have G13 := at_fe (k := 13) A0 rfl (by rw [hlen]; decide) (hB 13 (by decide)).1
      have G14 := at_fe (k := 14) A0 rfl (by rw [hlen]; decide) (hB 14 (by decide)).1
      have G15 := at_fe (k := 15) A0 rfl (by rw [hlen]; decide) (hB 15 (by decide)).1
      have G16 := at_fe (k := 16) A0 rfl (by rw [hlen]; decide) (hB 16 (by decide)).1
      have G17 := at_fe (k := 17) A0 rfl (by rw [hlen]; decide) (hB 17 (by decide)).1
      have G61 := at_fe (k := 61) A0 rfl (by rw [hlen]; decide) (hB 61 (by decide)).1
      have t6 : Γ (B 6) = 62 := (hB.tag hT tm (k := 6) (by decide)).1
      have t7 : Γ (B 7) = 63 := (hB.tag hT tm (k := 7) (by decide)).1
      have t8 : Γ (B 8) = 64 := (hB.tag hT tm (k := 8) (by decide)).1
      have t11 : Γ (B 11) = 121 := (hB.tag hT tm (k := 11) (by decide)).1
      have t12 : Γ (B 12) = 66 := (hB.tag hT tm (k := 12) (by decide)).1
      have t13 : Γ (B 13) = 122 := (hB.tag hT tm (k := 13) (by decide)).1
      have t14 : Γ (B 14) = 67 := (hB.tag hT tm (k := 14) (by decide)).1
      have t15 : Γ (B 15) = 123 := (hB.tag hT tm (k := 15) (by decide)).1
      have t16 : Γ (B 16) = 68 := (hB.tag hT tm (k := 16) (by decide)).1
      have t17 : Γ (B 17) = 69 := (hB.tag hT tm (k := 17) (by decide)).1
      have t61 : Γ (B 61) = 96 := (hB.tag hT tm (k := 61) (by decide)).1
      obtain ⟨w62, G62, a62⟩ := hv.get (k := 62) rfl
      obtain ⟨b62, rfl, t62, -⟩ := avi_ref rfl a62
      have t62 : Γ b62 = 97 := t62
      obtain ⟨cN, B62, -⟩ := h_ints (Or.inr (Or.inr rfl)) hT (by rw [t62]; decide) ((congrArg TS0.1 t62).trans rfl)
      obtain ⟨w63, G63, a63⟩ := hv.get (k := 63) rfl
      obtain ⟨b63, rfl, t63, -⟩ := avi_ref rfl a63
      have t63 : Γ b63 = 128 := t63
      obtain ⟨dN, B63, -⟩ := h_ints (Or.inr (Or.inr rfl)) hT (by rw [t63]; decide) ((congrArg TS0.1 t63).trans rfl)
      obtain ⟨ok, hr⟩ := hV i hi
      have ow := owb_of hT tm hB hV hnv i hi
      have tg : [Γ m0, Γ (B 6), Γ (B 7), Γ (B 8), Γ (B 11), Γ (B 12), Γ (B 13), Γ (B 14), Γ (B 15), Γ (B 16), Γ (B 17), Γ (B 61), Γ b62, Γ b63] = [60, 62, 63, 64, 121, 66, 122, 67, 123, 68, 69, 96, 97, 128] := by rw [tm, t6, t7, t8, t11, t12, t13, t14, t15, t16, t17, t61, t62, t63]
      refine ⟨11, _, _, by decide, K_X12_who1 l g m0 ws nv (B 6) (F 6) (B 7) (F 7) (B 8) (F 8) (B 11) (F 11) (B 12) (F 12) (B 13) (F 13) (B 14) (F 14) (B 15) (F 15) (B 16) (F 16) (B 17) (F 17) (B 61) (F 61) b62 cN b63 dN (V i).lc (V i).p i ni hlen F18 G6 G7 G8 G11 G12 G13 G14 G15 G16 G17 G61 G62 G63 hnv hi ok.2.1 hr.2.1 ok.1 hr.1 hni F19 F20, vaP_cons A0 (vaP_cons (hB 6 (by decide)).2 (vaP_cons (hB 7 (by decide)).2 (vaP_cons (hB 8 (by decide)).2 (vaP_cons (hB 11 (by decide)).2 (vaP_cons (hB 12 (by decide)).2 (vaP_cons (hB 13 (by decide)).2 (vaP_cons (hB 14 (by decide)).2 (vaP_cons (hB 15 (by decide)).2 (vaP_cons (hB 16 (by decide)).2 (vaP_cons (hB 17 (by decide)).2 (vaP_cons (hB 61 (by decide)).2 (vaP_cons B62 (vaP_cons B63 vaP_nil))))))))))))), D_tags (tl := [60, 62, 63, 64, 121, 66, 122, 67, 123, 68, 69, 96, 97, 128]) tg (by decide) (by decide), fun x u H1 hp hP hz hk hT1 hun => ?_⟩
      rw [hp.1, vAns_ok hnv hi, wh_refM ok ow hr hni]

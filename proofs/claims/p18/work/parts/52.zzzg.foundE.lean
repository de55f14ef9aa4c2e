set_option maxHeartbeats 8000000 in
theorem E11_foundK {l : Launch} {g : GG} {Γ : Nat → Nat} {x0 n nv np : Nat} {fb : Nat → Int32} {V : Nat → VV} (hU : UQ TS0 Γ) (hnv : nv ≤ 10) (hZ : ∀ i : Nat, i < nv → NLP (V i)) (tx : Γ x0 = 1) (p0 : Int32) (p1 : Int32) (p2 : Int32) (p3 : Int32) (p4 : Int32) : EX l g yX11_found cX11_found 8 (some .int) pX11_found_0 Γ [.ref x0, .int p0, .int p1, .int p2, .int p3, .int p4] (fun H => RC1 g x0 n fb nv np H ∧ RCV g x0 nv V H ∧ RYK g x0 H) (fun _ v H1 => v = .int (vAns nv V p0 (-1) (fun w => fdA w p1 p2 p3 p4)) ∧ RYK g x0 H1) :=
  EX_of (SX11_found_0 l g) hU ⟨av_ref tx (by decide), avi_top _, avi_top _, avi_top _, avi_top _, avi_top _, trivial⟩ rfl fun H hT hR => by
    obtain ⟨hC, hD, hRY⟩ := hR
    have hR := And.intro hC hD
    obtain ⟨hR, va, fA, sp, g1, g9, g10, g14, g15, g16, g17⟩ := hR
    obtain ⟨t0, tq, va', pa, sp', fA', fB, ⟨e0, eq, ea, ep, es⟩, h0, h1, h2, h3, h4, h5, h6, h7, h8, -, -, -, -, h13⟩ := hR.tags hT tx
    cases FE_fun g1 h1
    cases FE_fun g15 h3
    obtain ⟨c3, c4, c5, c6, c7, c8, c9, cc, A0⟩ := DV1 hT tx h0 h1 h2 h3 h4 h5
    rcases vin_cases (n := nv) (by omega) p0 with hb | ⟨i, hi, rfl⟩
    · have tg : [Γ x0, Γ va] = [1, 20] := by rw [tx, ea]
      refine ⟨1, _, _, by decide, K_X11_found0 l g x0 t0 va pa c3 c4 c5 c6 c7 c8 c9 sp nv np cc fA p0 p1 p2 p3 p4 hb, vaP_cons A0 (vaP_cons g9 vaP_nil), D_tags (tl := [1, 20]) tg (by decide) (by decide), fun x u H1 hp hP hz hk hT1 hun => ?_⟩
      obtain ⟨hx, rfl⟩ := hp
      have lt : ∀ {q t : Nat}, Γ q = t → t ≠ 0 → q < H.size := fun h h0 => hT.lt (by rw [h]; exact h0)
      obtain ⟨z7, e71, e72, e73, e74, e75, e76, pw, sa0, w0, w1⟩ := hRY.2
      have tz := PWX.tag hT tx w0
      have t40 := PWX.tag1 hT tz w1.1
      have t41 := PWX.tag2 hT tz w1.2.1
      cases FE_fun w0 (FE_at (k := 4) A0 rfl (by decide) rfl)
      have hY : RYK g x0 H1 := ⟨hRY.1.keep hT tx hun rfl, PWX.same (FE_at (k := 4) (hP 0 _ rfl) rfl (by decide) rfl) w1 (hk _ (lt tz (by decide)) (nin_tag (tl := [1, 20]) tg tz rfl (lt tz (by decide)))) (hk _ (lt t40 (by decide)) (nin_tag (tl := [1, 20]) tg t40 rfl (lt t40 (by decide)))) (hk _ (lt t41 (by decide)) (nin_tag (tl := [1, 20]) tg t41 rfl (lt t41 (by decide))))⟩
      exact ⟨by rw [hx, vAns_no hb]; rfl, hY⟩
    · obtain ⟨ok, v, hv, hV⟩ := g10 i hi
      have tv := RCV.tag hT tx g1 g9 (by omega) hv
      obtain ⟨s1, s2, s3, s4, s5, s6, s7, s8, s9, s10, s11⟩ := hV.tags hT tv
      obtain ⟨gl, v15, hP0⟩ := hV
      obtain ⟨z7, ze1, ze2, ze3, ze4, ze5, ze6, pw, sa0, w0, w1, w2, w3, w4, w5, w6, wA, wS, wP, wT, w34, w56⟩ := hRY.2
      cases FE_fun w0 (FE_at (k := 4) A0 rfl (by decide) rfl)
      have tz := PWX.tag hT tx w0
      obtain ⟨zr, zc, ye1, ye2, ye3, ye4, ye5, ye6, zp, zd, zt, zm, zi0, zi1, zi2, zi3, zi4, AZ, tr7, t39, t40, t41, t42, t42b, t43, t43b⟩ := DV7b hT tz
      cases FE_fun w1 (FE_at (k := 6) AZ rfl (by decide) rfl)
      cases FE_fun w2 (FE_at (k := 7) AZ rfl (by decide) rfl)
      cases FE_fun w3 (FE_at (k := 8) AZ rfl (by decide) rfl)
      cases FE_fun w4 (FE_at (k := 9) AZ rfl (by decide) rfl)
      cases FE_fun w5 (FE_at (k := 10) AZ rfl (by decide) rfl)
      cases FE_fun w6 (FE_at (k := 11) AZ rfl (by decide) rfl)
      obtain ⟨qo, qh, rc, rp, fS, fO, fM, fC, AR, t44, t45, t46, t47, B44, B45, B46, B47, hRI⟩ := DV5r hT tr7
      obtain ⟨cA, B39⟩ := ints_of hT t39 (by decide) rfl
      obtain ⟨ct, B42⟩ := ints_of hT t42 (by decide) rfl
      obtain ⟨gd, B42b⟩ := ints_of hT t42b (by decide) rfl
      obtain ⟨nw, B43⟩ := ints_of hT t43 (by decide) rfl
      obtain ⟨nx, B43b⟩ := ints_of hT t43b (by decide) rfl
      have hpw : ∀ j : Nat, j < 128 → pw j = nI (tN (pw j)) ∧ tN (pw j) ≤ 1093 := row_nn hT t40 wA rfl (by omega)
      refine ⟨15, _, _, by decide, K_X11_found1 l g x0 t0 va pa c3 c4 c5 c6 c7 c8 c9 sp nv np cc fA i zr zc ze1 ze2 ze3 ze4 ze5 ze6 zp zd zt zm zi0 zi1 zi2 zi3 zi4 cA pw sa0 ct gd nw nx (zr + 1) qo (zr + 3) qh fS fO fM fC rc rp v (v + 1) (v + 2) (v + 3) (v + 4) (v + 5) (v + 6) (v + 7) (v + 8) (v + 9) (v + 10) (v + 11) v15 (V i).p (nI (V i).lc) (V i).de gl (V i).kn (V i).mu (V i).mn (kx (V i)) p1 p2 p3 p4 hi hnv hv ok.1 hpw hRI, vaP_cons A0 (vaP_cons g9 (vaP_cons AZ (vaP_cons B39 (vaP_cons wA (vaP_cons wS (vaP_cons B42 (vaP_cons B42b (vaP_cons B43 (vaP_cons B43b (vaP_cons AR (vaP_cons B44 (vaP_cons B45 (vaP_cons B46 (vaP_cons B47 (vaP_cons (hP0 0 _ rfl) (vaP_cons (hP0 1 _ rfl) (vaP_cons (hP0 2 _ rfl) (vaP_cons (hP0 3 _ rfl) (vaP_cons (hP0 8 _ rfl) vaP_nil))))))))))))))))))), D_keys (K := fun u => (if u = ze4 then 1001 else if u = ze6 then 1002 else if u = (v + 2) then 1003 else if u = (v + 3) then 1004 else Γ u)) (tl := [1, 20, 6, 39, 40, 41, 42, 1001, 43, 1002, 7, 44, 45, 46, 47, 3, 23, 1003, 1004, 26]) (by
        show [(if x0 = ze4 then 1001 else if x0 = ze6 then 1002 else if x0 = (v + 2) then 1003 else if x0 = (v + 3) then 1004 else Γ x0), (if va = ze4 then 1001 else if va = ze6 then 1002 else if va = (v + 2) then 1003 else if va = (v + 3) then 1004 else Γ va), (if c4 = ze4 then 1001 else if c4 = ze6 then 1002 else if c4 = (v + 2) then 1003 else if c4 = (v + 3) then 1004 else Γ c4), (if zc = ze4 then 1001 else if zc = ze6 then 1002 else if zc = (v + 2) then 1003 else if zc = (v + 3) then 1004 else Γ zc), (if ze1 = ze4 then 1001 else if ze1 = ze6 then 1002 else if ze1 = (v + 2) then 1003 else if ze1 = (v + 3) then 1004 else Γ ze1), (if ze2 = ze4 then 1001 else if ze2 = ze6 then 1002 else if ze2 = (v + 2) then 1003 else if ze2 = (v + 3) then 1004 else Γ ze2), (if ze3 = ze4 then 1001 else if ze3 = ze6 then 1002 else if ze3 = (v + 2) then 1003 else if ze3 = (v + 3) then 1004 else Γ ze3), (if ze4 = ze4 then 1001 else if ze4 = ze6 then 1002 else if ze4 = (v + 2) then 1003 else if ze4 = (v + 3) then 1004 else Γ ze4), (if ze5 = ze4 then 1001 else if ze5 = ze6 then 1002 else if ze5 = (v + 2) then 1003 else if ze5 = (v + 3) then 1004 else Γ ze5), (if ze6 = ze4 then 1001 else if ze6 = ze6 then 1002 else if ze6 = (v + 2) then 1003 else if ze6 = (v + 3) then 1004 else Γ ze6), (if zr = ze4 then 1001 else if zr = ze6 then 1002 else if zr = (v + 2) then 1003 else if zr = (v + 3) then 1004 else Γ zr), (if (zr + 1) = ze4 then 1001 else if (zr + 1) = ze6 then 1002 else if (zr + 1) = (v + 2) then 1003 else if (zr + 1) = (v + 3) then 1004 else Γ (zr + 1)), (if qo = ze4 then 1001 else if qo = ze6 then 1002 else if qo = (v + 2) then 1003 else if qo = (v + 3) then 1004 else Γ qo), (if (zr + 3) = ze4 then 1001 else if (zr + 3) = ze6 then 1002 else if (zr + 3) = (v + 2) then 1003 else if (zr + 3) = (v + 3) then 1004 else Γ (zr + 3)), (if qh = ze4 then 1001 else if qh = ze6 then 1002 else if qh = (v + 2) then 1003 else if qh = (v + 3) then 1004 else Γ qh), (if v = ze4 then 1001 else if v = ze6 then 1002 else if v = (v + 2) then 1003 else if v = (v + 3) then 1004 else Γ v), (if (v + 1) = ze4 then 1001 else if (v + 1) = ze6 then 1002 else if (v + 1) = (v + 2) then 1003 else if (v + 1) = (v + 3) then 1004 else Γ (v + 1)), (if (v + 2) = ze4 then 1001 else if (v + 2) = ze6 then 1002 else if (v + 2) = (v + 2) then 1003 else if (v + 2) = (v + 3) then 1004 else Γ (v + 2)), (if (v + 3) = ze4 then 1001 else if (v + 3) = ze6 then 1002 else if (v + 3) = (v + 2) then 1003 else if (v + 3) = (v + 3) then 1004 else Γ (v + 3)), (if (v + 8) = ze4 then 1001 else if (v + 8) = ze6 then 1002 else if (v + 8) = (v + 2) then 1003 else if (v + 8) = (v + 3) then 1004 else Γ (v + 8))] = _
        rw [(show (if x0 = ze4 then 1001 else if x0 = ze6 then 1002 else if x0 = (v + 2) then 1003 else if x0 = (v + 3) then 1004 else Γ x0) = 1 by rw [if_neg (nt_ne tx t42b (by decide)), if_neg (nt_ne tx t43b (by decide)), if_neg (nt_ne tx s2 (by decide)), if_neg (nt_ne tx s3 (by decide)), tx]), (show (if va = ze4 then 1001 else if va = ze6 then 1002 else if va = (v + 2) then 1003 else if va = (v + 3) then 1004 else Γ va) = 20 by rw [if_neg (nt_ne ea t42b (by decide)), if_neg (nt_ne ea t43b (by decide)), if_neg (nt_ne ea s2 (by decide)), if_neg (nt_ne ea s3 (by decide)), ea]), (show (if c4 = ze4 then 1001 else if c4 = ze6 then 1002 else if c4 = (v + 2) then 1003 else if c4 = (v + 3) then 1004 else Γ c4) = 6 by rw [if_neg (nt_ne tz t42b (by decide)), if_neg (nt_ne tz t43b (by decide)), if_neg (nt_ne tz s2 (by decide)), if_neg (nt_ne tz s3 (by decide)), tz]), (show (if zc = ze4 then 1001 else if zc = ze6 then 1002 else if zc = (v + 2) then 1003 else if zc = (v + 3) then 1004 else Γ zc) = 39 by rw [if_neg (nt_ne t39 t42b (by decide)), if_neg (nt_ne t39 t43b (by decide)), if_neg (nt_ne t39 s2 (by decide)), if_neg (nt_ne t39 s3 (by decide)), t39]), (show (if ze1 = ze4 then 1001 else if ze1 = ze6 then 1002 else if ze1 = (v + 2) then 1003 else if ze1 = (v + 3) then 1004 else Γ ze1) = 40 by rw [if_neg (nt_ne t40 t42b (by decide)), if_neg (nt_ne t40 t43b (by decide)), if_neg (nt_ne t40 s2 (by decide)), if_neg (nt_ne t40 s3 (by decide)), t40]), (show (if ze2 = ze4 then 1001 else if ze2 = ze6 then 1002 else if ze2 = (v + 2) then 1003 else if ze2 = (v + 3) then 1004 else Γ ze2) = 41 by rw [if_neg (nt_ne t41 t42b (by decide)), if_neg (nt_ne t41 t43b (by decide)), if_neg (nt_ne t41 s2 (by decide)), if_neg (nt_ne t41 s3 (by decide)), t41]), (show (if ze3 = ze4 then 1001 else if ze3 = ze6 then 1002 else if ze3 = (v + 2) then 1003 else if ze3 = (v + 3) then 1004 else Γ ze3) = 42 by rw [if_neg (w34), if_neg (nt_ne t42 t43b (by decide)), if_neg (nt_ne t42 s2 (by decide)), if_neg (nt_ne t42 s3 (by decide)), t42]), (show (if ze4 = ze4 then 1001 else if ze4 = ze6 then 1002 else if ze4 = (v + 2) then 1003 else if ze4 = (v + 3) then 1004 else Γ ze4) = 1001 by rw [if_pos rfl]), (show (if ze5 = ze4 then 1001 else if ze5 = ze6 then 1002 else if ze5 = (v + 2) then 1003 else if ze5 = (v + 3) then 1004 else Γ ze5) = 43 by rw [if_neg (nt_ne t43 t42b (by decide)), if_neg (w56), if_neg (nt_ne t43 s2 (by decide)), if_neg (nt_ne t43 s3 (by decide)), t43]), (show (if ze6 = ze4 then 1001 else if ze6 = ze6 then 1002 else if ze6 = (v + 2) then 1003 else if ze6 = (v + 3) then 1004 else Γ ze6) = 1002 by rw [if_neg (nt_ne t43b t42b (by decide)), if_pos rfl]), (show (if zr = ze4 then 1001 else if zr = ze6 then 1002 else if zr = (v + 2) then 1003 else if zr = (v + 3) then 1004 else Γ zr) = 7 by rw [if_neg (nt_ne tr7 t42b (by decide)), if_neg (nt_ne tr7 t43b (by decide)), if_neg (nt_ne tr7 s2 (by decide)), if_neg (nt_ne tr7 s3 (by decide)), tr7]), (show (if (zr + 1) = ze4 then 1001 else if (zr + 1) = ze6 then 1002 else if (zr + 1) = (v + 2) then 1003 else if (zr + 1) = (v + 3) then 1004 else Γ (zr + 1)) = 44 by rw [if_neg (nt_ne t44 t42b (by decide)), if_neg (nt_ne t44 t43b (by decide)), if_neg (nt_ne t44 s2 (by decide)), if_neg (nt_ne t44 s3 (by decide)), t44]), (show (if qo = ze4 then 1001 else if qo = ze6 then 1002 else if qo = (v + 2) then 1003 else if qo = (v + 3) then 1004 else Γ qo) = 45 by rw [if_neg (nt_ne t45 t42b (by decide)), if_neg (nt_ne t45 t43b (by decide)), if_neg (nt_ne t45 s2 (by decide)), if_neg (nt_ne t45 s3 (by decide)), t45]), (show (if (zr + 3) = ze4 then 1001 else if (zr + 3) = ze6 then 1002 else if (zr + 3) = (v + 2) then 1003 else if (zr + 3) = (v + 3) then 1004 else Γ (zr + 3)) = 46 by rw [if_neg (nt_ne t46 t42b (by decide)), if_neg (nt_ne t46 t43b (by decide)), if_neg (nt_ne t46 s2 (by decide)), if_neg (nt_ne t46 s3 (by decide)), t46]), (show (if qh = ze4 then 1001 else if qh = ze6 then 1002 else if qh = (v + 2) then 1003 else if qh = (v + 3) then 1004 else Γ qh) = 47 by rw [if_neg (nt_ne t47 t42b (by decide)), if_neg (nt_ne t47 t43b (by decide)), if_neg (nt_ne t47 s2 (by decide)), if_neg (nt_ne t47 s3 (by decide)), t47]), (show (if v = ze4 then 1001 else if v = ze6 then 1002 else if v = (v + 2) then 1003 else if v = (v + 3) then 1004 else Γ v) = 3 by rw [if_neg (nt_ne tv t42b (by decide)), if_neg (nt_ne tv t43b (by decide)), if_neg (nt_ne tv s2 (by decide)), if_neg (nt_ne tv s3 (by decide)), tv]), (show (if (v + 1) = ze4 then 1001 else if (v + 1) = ze6 then 1002 else if (v + 1) = (v + 2) then 1003 else if (v + 1) = (v + 3) then 1004 else Γ (v + 1)) = 23 by rw [if_neg (nt_ne s1 t42b (by decide)), if_neg (nt_ne s1 t43b (by decide)), if_neg (by omega), if_neg (by omega), s1]), (show (if (v + 2) = ze4 then 1001 else if (v + 2) = ze6 then 1002 else if (v + 2) = (v + 2) then 1003 else if (v + 2) = (v + 3) then 1004 else Γ (v + 2)) = 1003 by rw [if_neg (nt_ne s2 t42b (by decide)), if_neg (nt_ne s2 t43b (by decide)), if_pos rfl]), (show (if (v + 3) = ze4 then 1001 else if (v + 3) = ze6 then 1002 else if (v + 3) = (v + 2) then 1003 else if (v + 3) = (v + 3) then 1004 else Γ (v + 3)) = 1004 by rw [if_neg (nt_ne s3 t42b (by decide)), if_neg (nt_ne s3 t43b (by decide)), if_neg (by omega), if_pos rfl]), (show (if (v + 8) = ze4 then 1001 else if (v + 8) = ze6 then 1002 else if (v + 8) = (v + 2) then 1003 else if (v + 8) = (v + 3) then 1004 else Γ (v + 8)) = 26 by rw [if_neg (nt_ne s8 t42b (by decide)), if_neg (nt_ne s8 t43b (by decide)), if_neg (nt_ne s8 s2 (by decide)), if_neg (nt_ne s8 s3 (by decide)), s8])]) (by decide) (by
        intro k w hw
        match k, hw with
        | 0, hw => cases hw; show Γ x0 ≠ 0; rw [tx]; decide
        | 1, hw => cases hw; show Γ va ≠ 0; rw [ea]; decide
        | 2, hw => cases hw; show Γ c4 ≠ 0; rw [tz]; decide
        | 3, hw => cases hw; show Γ zc ≠ 0; rw [t39]; decide
        | 4, hw => cases hw; show Γ ze1 ≠ 0; rw [t40]; decide
        | 5, hw => cases hw; show Γ ze2 ≠ 0; rw [t41]; decide
        | 6, hw => cases hw; show Γ ze3 ≠ 0; rw [t42]; decide
        | 7, hw => cases hw; show Γ ze4 ≠ 0; rw [t42b]; decide
        | 8, hw => cases hw; show Γ ze5 ≠ 0; rw [t43]; decide
        | 9, hw => cases hw; show Γ ze6 ≠ 0; rw [t43b]; decide
        | 10, hw => cases hw; show Γ zr ≠ 0; rw [tr7]; decide
        | 11, hw => cases hw; show Γ (zr + 1) ≠ 0; rw [t44]; decide
        | 12, hw => cases hw; show Γ qo ≠ 0; rw [t45]; decide
        | 13, hw => cases hw; show Γ (zr + 3) ≠ 0; rw [t46]; decide
        | 14, hw => cases hw; show Γ qh ≠ 0; rw [t47]; decide
        | 15, hw => cases hw; show Γ v ≠ 0; rw [tv]; decide
        | 16, hw => cases hw; show Γ (v + 1) ≠ 0; rw [s1]; decide
        | 17, hw => cases hw; show Γ (v + 2) ≠ 0; rw [s2]; decide
        | 18, hw => cases hw; show Γ (v + 3) ≠ 0; rw [s3]; decide
        | 19, hw => cases hw; show Γ (v + 8) ≠ 0; rw [s8]; decide
        | k + 20, hw => cases hw), fun x u H1 hp hP hz hk hT1 hun => ?_⟩
      obtain ⟨hx, rfl⟩ := hp
      have hY : RYK g x0 H1 := ⟨hRY.1.keep hT tx hun rfl, c4, ze1, ze2, ze3, ze4, _, _, pw, sa0, FE_at (k := 4) (hP 0 _ rfl) rfl (by decide) rfl, FE_at (k := 6) (hP 2 _ rfl) rfl (by decide) rfl, FE_at (k := 7) (hP 2 _ rfl) rfl (by decide) rfl, FE_at (k := 8) (hP 2 _ rfl) rfl (by decide) rfl, FE_at (k := 9) (hP 2 _ rfl) rfl (by decide) rfl, FE_at (k := 10) (hP 2 _ rfl) rfl (by decide) rfl, FE_at (k := 11) (hP 2 _ rfl) rfl (by decide) rfl, hP 4 _ rfl, va_at.kept wS (hun.arr t41 (by decide) rfl (mdn_at (l := [(41, 0)]) rfl (by decide))), wP, wT, w34, PQ.ne w56 (fd_pq ok.1 hRI)⟩
      exact ⟨congrArg Value.int (hx.trans ((fd_cls ok (hZ i hi).2 wP wT hRI).trans (vAns_ok (no := -1) (f := fun w => fdA w p1 p2 p3 p4) hnv hi).symm)), hY⟩

theorem lf_val {F : Nat → Nat → Int32} {i ni h : Nat} {w : VV} {gN : Nat → Int32} (ok : VOK w) (ow : OWB w) (hr : RP1 F i w) (hK : KNB w) (hni : ni < 4) (h1 : 1 ≤ h) (h2 : h ≤ 24) : (F_X12_leastFrom (F 8) (F 9) (F 10) (F 11) (F 12) (F 13) (F 14) (F 15) (F 16) (F 17) gN i w.lc w.p ni h).1 = 99 ∨ ((F_X12_leastFrom (F 8) (F 9) (F 10) (F 11) (F 12) (F 13) (F 14) (F 15) (F 16) (F 17) gN i w.lc w.p ni h).1 = nI (tN (F_X12_leastFrom (F 8) (F 9) (F 10) (F 11) (F 12) (F 13) (F 14) (F 15) (F 16) (F 17) gN i w.lc w.p ni h).1) ∧ tN (F_X12_leastFrom (F 8) (F 9) (F 10) (F 11) (F 12) (F 13) (F 14) (F 15) (F 16) (F 17) gN i w.lc w.p ni h).1 + h ≤ 25) := by
  have hp := ok.1
  obtain ⟨r9, r10, r11⟩ := hr.2.2.2.1 ni hni
  have hk := kn_s7 ok hK hni
  have hg : GD2 w.de (w.kn ni) 0 := ⟨hk, s7_0, and_0r _, fun i _ q => by rw [b_0] at q; cases q⟩
  have hM : MEMO w.p w.de (TPw w ni) (w.mu ni) (cAw w ni) (F_X12_ask gN) := fun h k o a1 a2 hg => by
    have b1 := (s7_num hg.1).2
    have b2 := (s7_num hg.2.1).2
    exact Or.inl (ask_0 425984 _ (by omega))
  have q := (nd_MV (zm := w.mu ni) hp (rD := F 8) (i := i) hr.2.2.1 (chh_of (nw := ni) ok ow hr) (25 - h) (by omega) _ _ _ hg hM).1
  unfold F_X12_leastFrom
  rw [r9, r10, r11]
  rcases q with ⟨v1, -⟩ | ⟨n, hn, v1, -, -⟩
  · exact Or.inl v1
  · refine Or.inr ?_
    have e : tN (NDf (w.mu ni) (w.mn ni) (F 8) i w.p (fun h a b => F_X12_mayCall (F 12) (F 13) (F 14) (F 15) (F 16) (F 17) w.lc i a b (nI h)) (25 - h) (w.kn ni) 0 (F_X12_ask gN)).1 = n := by rw [v1, tN_nI (by omega)]
    show _ = nI (tN _) ∧ tN _ + h ≤ 25
    rw [e]
    exact ⟨v1, by omega⟩
set_option maxHeartbeats 8000000 in
theorem E12_foundP {l : Launch} {g : GG} {Γ : Nat → Nat} {m0 n nv np : Nat} {fb : Nat → Int32} {V : Nat → VV} (hU : UQ TS0 Γ) (hnv : nv ≤ 10) (hK : ∀ i : Nat, i < nv → KNB (V i)) (tm : Γ m0 = 60) (p0 p1 p2 p3 p4 : Int32) : EX l g yX12_found cX12_found 11 (some .int) pX12_found_0 Γ [.ref m0, .int p0, .int p1, .int p2, .int p3, .int p4] (fun H => RR1 g m0 n fb nv np H ∧ RRV g m0 nv V H ∧ RMM g m0 H) (fun _ v _ => v = .int (vAns nv V p0 (-1) (fun w => fdA w p1 p2 p3 p4))) :=
  EX_of (SX12_found_0 l g) hU ⟨av_ref tm (by decide), avi_top _, avi_top _, avi_top _, avi_top _, avi_top _, trivial⟩ rfl fun H hT hR => by
    obtain ⟨hR, ⟨B, F, hB, hV⟩, M19, M20⟩ := hR
    obtain ⟨tr, er, h1, h2, h3, h4, h5⟩ := hR.tags hT tm
    obtain ⟨ws, A0, hv⟩ := h_obj hT (by rw [tm]; decide) ((congrArg TS0.1 tm).trans rfl)
    have hlen := KV_len (KV_of hv)
    have F18 := at_fe (k := 18) A0 rfl (by rw [hlen]; decide) h3
    have G6 := at_fe (k := 6) A0 rfl (by rw [hlen]; decide) (hB 6 (by decide)).1
    have G7 := at_fe (k := 7) A0 rfl (by rw [hlen]; decide) (hB 7 (by decide)).1
    have G8 := at_fe (k := 8) A0 rfl (by rw [hlen]; decide) (hB 8 (by decide)).1
    have G9 := at_fe (k := 9) A0 rfl (by rw [hlen]; decide) (hB 9 (by decide)).1
    have G10 := at_fe (k := 10) A0 rfl (by rw [hlen]; decide) (hB 10 (by decide)).1
    have G11 := at_fe (k := 11) A0 rfl (by rw [hlen]; decide) (hB 11 (by decide)).1
    have G12 := at_fe (k := 12) A0 rfl (by rw [hlen]; decide) (hB 12 (by decide)).1
    have G13 := at_fe (k := 13) A0 rfl (by rw [hlen]; decide) (hB 13 (by decide)).1
    have G14 := at_fe (k := 14) A0 rfl (by rw [hlen]; decide) (hB 14 (by decide)).1
    have G15 := at_fe (k := 15) A0 rfl (by rw [hlen]; decide) (hB 15 (by decide)).1
    have G16 := at_fe (k := 16) A0 rfl (by rw [hlen]; decide) (hB 16 (by decide)).1
    have G17 := at_fe (k := 17) A0 rfl (by rw [hlen]; decide) (hB 17 (by decide)).1
    have t6 : Γ (B 6) = 62 := (hB.tag hT tm (k := 6) (by decide)).1
    have t7 : Γ (B 7) = 63 := (hB.tag hT tm (k := 7) (by decide)).1
    have t8 : Γ (B 8) = 64 := (hB.tag hT tm (k := 8) (by decide)).1
    have t9 : Γ (B 9) = 65 := (hB.tag hT tm (k := 9) (by decide)).1
    have t10 : Γ (B 10) = 120 := (hB.tag hT tm (k := 10) (by decide)).1
    have t11 : Γ (B 11) = 121 := (hB.tag hT tm (k := 11) (by decide)).1
    have t12 : Γ (B 12) = 66 := (hB.tag hT tm (k := 12) (by decide)).1
    have t13 : Γ (B 13) = 122 := (hB.tag hT tm (k := 13) (by decide)).1
    have t14 : Γ (B 14) = 67 := (hB.tag hT tm (k := 14) (by decide)).1
    have t15 : Γ (B 15) = 123 := (hB.tag hT tm (k := 15) (by decide)).1
    have t16 : Γ (B 16) = 68 := (hB.tag hT tm (k := 16) (by decide)).1
    have t17 : Γ (B 17) = 69 := (hB.tag hT tm (k := 17) (by decide)).1
    by_cases hbad : F_X12_isAsked nv p0 p1 = 0 ∨ F_X12_isHour p2 = 0 ∨ F_X12_isPerson (F 6) (tN p0) p4 = 0
    · refine ⟨3, _, _, by decide, K_X12_found0 l g m0 ws nv (B 6) (F 6) p0 p1 p2 p3 p4 hlen F18 G6 hnv hbad, vaP_cons A0 (vaP_cons (hB 6 (by decide)).2 vaP_nil), D_tags (tl := [60, 62]) (by show [Γ m0, Γ (B 6)] = _; rw [tm, t6]) (by decide) (by decide), fun x u H1 hp hP hz hk hT1 hun => ?_⟩
      rw [hp.1, fd0_val, fd_bad hnv hV hbad]
    · obtain ⟨ha, hbad⟩ := not_or.mp hbad
      obtain ⟨hh, hpn⟩ := not_or.mp hbad
      obtain ⟨⟨dx1, dx2⟩, dy1, dy2⟩ := ia_at hnv ha
      obtain ⟨dz1, dz2, dz3⟩ := hr_at (show ¬ F_X11_isHour p2 = 0 from hh)
      obtain ⟨i, hi, rfl⟩ : ∃ i : Nat, i < nv ∧ p0 = nI i := ⟨tN p0, dx2, dx1⟩
      obtain ⟨ni, hni, rfl⟩ : ∃ i : Nat, i < 4 ∧ p1 = nI i := ⟨tN p1, dy2, dy1⟩
      obtain ⟨h, ⟨hh1, hh2⟩, rfl⟩ : ∃ i : Nat, (1 ≤ i ∧ i ≤ 24) ∧ p2 = nI i := ⟨tN p2, ⟨dz2, dz3⟩, dz1⟩
      obtain ⟨ok, hr⟩ := hV i hi
      have hp7 := ok.1
      rw [tN_nI (show i < 2 ^ 31 by omega)] at hpn
      have eP : tN (F 6 i) = (V i).p := by rw [hr.1, tN_nI (by omega)]
      obtain ⟨ep, hpo⟩ := rp1_at (P := F 6 i) ⟨by rw [eP]; exact hr.1, by omega⟩ (show ¬ F_X12_isIn p4 0 (F 6 i - 1) = 0 from hpn)
      rw [eP] at hpo
      obtain ⟨o, ho, rfl⟩ : ∃ o : Nat, o < (V i).p ∧ p4 = nI o := ⟨tN p4, hpo, ep⟩
      have F19 := at_fe (k := 19) A0 rfl (by rw [hlen]; decide) M19
      have F20 := at_fe (k := 20) A0 rfl (by rw [hlen]; decide) M20
      obtain ⟨w34, G34, a34⟩ := hv.get (k := 34) rfl
      obtain ⟨b34, rfl, t34, -⟩ := avi_ref rfl a34
      have t34 : Γ b34 = 81 := t34
      obtain ⟨gN, B34, -⟩ := h_ints (Or.inl rfl) hT (by rw [t34]; decide) ((congrArg TS0.1 t34).trans rfl)
      obtain ⟨w35, G35, a35⟩ := hv.get (k := 35) rfl
      obtain ⟨b35, rfl, t35, -⟩ := avi_ref rfl a35
      have t35 : Γ b35 = 82 := t35
      obtain ⟨gR, B35⟩ := ints_of hT t35 (by decide) rfl
      obtain ⟨w44, G44, a44⟩ := hv.get (k := 44) rfl
      obtain ⟨ka, rfl, -⟩ := avi_int rfl a44
      obtain ⟨w45, G45, a45⟩ := hv.get (k := 45) rfl
      obtain ⟨kb, rfl, -⟩ := avi_int rfl a45
      have hkn : ∀ j : Nat, j < 44 → s7 (F 9 j) := fun j hj => by
        obtain ⟨q1, q2⟩ := row_nn (hi := 127) hT t9 (show AT g 1 44 (B 9) (F 9) H from (hB 9 (by decide)).2) rfl (by omega) j hj
        rw [q1]
        exact s7_nI (by omega)
      have ow := owb_of hT tm hB hV hnv i hi
      have hval := lf_val (gN := gN) ok ow hr (hK i hi) hni hh1 hh2
      have tg : [Γ m0, Γ (B 6), Γ (B 7), Γ (B 8), Γ (B 9), Γ (B 10), Γ (B 11), Γ (B 12), Γ (B 13), Γ (B 14), Γ (B 15), Γ (B 16), Γ (B 17), Γ b34, Γ b35] = [60, 62, 63, 64, 65, 120, 121, 66, 122, 67, 123, 68, 69, 81, 82] := by rw [tm, t6, t7, t8, t9, t10, t11, t12, t13, t14, t15, t16, t17, t34, t35]
      refine ⟨242, _, _, by decide, K_X12_found1 l g m0 ws nv (B 6) (F 6) (B 7) (F 7) (B 8) (F 8) (B 9) (F 9) (B 10) (F 10) (B 11) (F 11) (B 12) (F 12) (B 13) (F 13) (B 14) (F 14) (B 15) (F 15) (B 16) (F 16) (B 17) (F 17) b34 gN b35 gR ka kb i (V i).lc (V i).p ni h p3 o hlen F18 G6 G7 G8 G9 G10 G11 G12 G13 G14 G15 G16 G17 G34 G35 hnv hi ok.2.1 hr.2.1 ok.1 hr.1 F19 F20 G44 G45 hni hh1 hh2 ho hkn hval, vaP_cons A0 (vaP_cons (hB 6 (by decide)).2 (vaP_cons (hB 7 (by decide)).2 (vaP_cons (hB 8 (by decide)).2 (vaP_cons (hB 9 (by decide)).2 (vaP_cons (hB 10 (by decide)).2 (vaP_cons (hB 11 (by decide)).2 (vaP_cons (hB 12 (by decide)).2 (vaP_cons (hB 13 (by decide)).2 (vaP_cons (hB 14 (by decide)).2 (vaP_cons (hB 15 (by decide)).2 (vaP_cons (hB 16 (by decide)).2 (vaP_cons (hB 17 (by decide)).2 (vaP_cons B34 (vaP_cons B35 vaP_nil)))))))))))))), D_tags (tl := [60, 62, 63, 64, 65, 120, 121, 66, 122, 67, 123, 68, 69, 81, 82]) tg (by decide) (by decide), fun x u H1 hp hP hz hk hT1 hun => ?_⟩
      rw [hp.1, vAns_ok hnv hi, fd_refM ok ow hr (hK i hi) hni hh1 hh2 ho]

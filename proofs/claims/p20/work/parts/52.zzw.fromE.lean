set_option maxHeartbeats 8000000 in
theorem E11_fromK {l : Launch} {g : GG} {Γ : Nat → Nat} {x0 n nv np : Nat} {fb : Nat → Int32} {V : Nat → VV} {P : Nat → PP} (hU : UQ TS0 Γ) (hnv : nv ≤ 10) (hnp : np ≤ 12) (hZ : PLX nv V np P) (tx : Γ x0 = 1) (p0 p1 p2 : Int32) : EX l g yX11_from cX11_from 5 (some .int) pX11_from_0 Γ [.ref x0, .int p0, .int p1, .int p2] (fun H => RC1 g x0 n fb nv np H ∧ RCV g x0 nv V H ∧ RCP g x0 np P H ∧ RYK g x0 H) (fun _ v H1 => v = .int (frA np V P p0 p1 p2) ∧ RYK g x0 H1) :=
  EX_of (SX11_from_0 l g) hU ⟨av_ref tx (by decide), avi_top _, avi_top _, avi_top _, trivial⟩ rfl fun H hT hR => by
    obtain ⟨hR, hRV, hRP, hRY⟩ := hR
    obtain ⟨va, pa, fA, fB, k1, k9, k2, k11, k13, k14, k15⟩ := hRP
    obtain ⟨t0, tq, va'', pa', sp, fA'', fB', ⟨e0, eq, ea, ep, es⟩, h0, h1, h2, h3, h4, h5, h6, h7, h8, h9, h10, h11, h12, h13⟩ := hR.tags hT tx
    cases FE_fun k1 h1
    cases FE_fun k2 h2
    obtain ⟨c3, c4, c5, c6, c7, c8, c9, cc, A0⟩ := DV1 hT tx h0 h1 h2 h3 h4 h5
    obtain ⟨va', fA', sp', g1, g9, g10, -⟩ := hRV
    cases FE_fun k1 g1
    rcases vin_cases (n := np) (by omega) p0 with hb | ⟨i, hi, rfl⟩
    · have tg : [Γ x0, Γ pa] = [1, 21] := by rw [tx, ep]
      refine ⟨1, _, _, by decide, K_X11_from0 l g x0 t0 va pa c3 c4 c5 c6 c7 c8 c9 sp nv np cc fB p0 p1 p2 hb, vaP_cons A0 (vaP_cons k11 vaP_nil), D_tags (tl := [1, 21]) tg (by decide) (by decide), fun x u H1 hp hP hz hk hT1 hun => ?_⟩
      obtain ⟨hx, rfl⟩ := hp
      have lt : ∀ {q t : Nat}, Γ q = t → t ≠ 0 → q < H.size := fun h h0 => hT.lt (by rw [h]; exact h0)
      obtain ⟨z7, e71, e72, e73, e74, e75, e76, pw, sa0, w0, w1⟩ := hRY.2
      have tz := PWX.tag hT tx w0
      have t40 := PWX.tag1 hT tz w1.1
      have t41 := PWX.tag2 hT tz w1.2.1
      cases FE_fun w0 (FE_at (k := 4) A0 rfl (by decide) rfl)
      refine ⟨by rw [hx, frA_no hb]; rfl, ⟨hRY.1.keep hT tx hun rfl, PWX.same (FE_at (k := 4) (hP 0 _ rfl) rfl (by decide) rfl) w1 (hk _ (lt tz (by decide)) (nin_tag (tl := [1, 21]) tg tz rfl (lt tz (by decide)))) (hk _ (lt t40 (by decide)) (nin_tag (tl := [1, 21]) tg t40 rfl (lt t40 (by decide)))) (hk _ (lt t41 (by decide)) (nin_tag (tl := [1, 21]) tg t41 rfl (lt t41 (by decide))))⟩⟩
    · obtain ⟨q, v, hB, hA, hPC⟩ := k14 i hi
      obtain ⟨hv, hw⟩ := hZ.1 i hi
      obtain ⟨okV, v', hv', hVC⟩ := g10 (P i).v hv
      cases (RFA_fun k9 g9 (by omega) hA).symm.trans hv'
      have tq4 := RCP.tag hT tx k2 k11 (by omega) hB
      obtain ⟨s0, s1, s2, s3, s4, s5⟩ := hPC.tags hT tq4
      obtain ⟨y1, y2, y3, y4, y5, y6, y7, y8, y9, y10, y11⟩ := hVC.tags hT s0
      obtain ⟨gl, v15, hP0⟩ := hVC
      have AQ := hPC 0 _ rfl
      have s6 := (ref_tag (k := 7) (u := 36) hT tq4 (by decide) rfl rfl (FE_at (k := 7) AQ rfl (by decide) rfl)).1
      have s7 := (ref_tag (k := 8) (u := 37) hT tq4 (by decide) rfl rfl (FE_at (k := 8) AQ rfl (by decide) rfl)).1
      obtain ⟨W, B6⟩ := ints_of hT s6 (by decide) rfl
      obtain ⟨R, B7⟩ := ints_of hT s7 (by decide) rfl
      have hH : ∀ j : Nat, j < 40 → (P i).h j = nI (tN ((P i).h j)) ∧ tN ((P i).h j) ≤ 24 := row_nn hT s1 (show AT g 1 40 (q + 1) (P i).h H from hPC 1 _ rfl) rfl (by omega)
      have hCa : ∀ j : Nat, j < 40 → (P i).a j = nI (tN ((P i).a j)) ∧ tN ((P i).a j) < 7 := fun j hj => by
        obtain ⟨q1, q2⟩ := row_nn (hi := 6) hT s3 (show AT g 1 40 (q + 3) (P i).a H from hPC 3 _ rfl) rfl (by omega) j hj
        exact ⟨q1, by omega⟩
      obtain ⟨c3', yk, yt, r1, r2, r3, r4⟩ := hRY.1
      cases FE_fun r1 (FE_at (k := 3) A0 rfl (by decide) rfl)
      have t5 := RY0.tag hT tx r1
      obtain ⟨yd, yu, yb, A5, t38, t38b⟩ := DV5 hT t5 r2 r3
      obtain ⟨kN, BK⟩ := ints_of hT t38 (by decide) rfl
      obtain ⟨tO, BT⟩ := ints_of hT t38b (by decide) rfl
      obtain ⟨z7, ze1, ze2, ze3, ze4, ze5, ze6, pw, sa0, w0, w1, w2, w3, w4, w5, w6, wA, wS, wP, wT, w34, w56⟩ := hRY.2
      cases FE_fun w0 (FE_at (k := 4) A0 rfl (by decide) rfl)
      have tz := PWX.tag hT tx w0
      obtain ⟨zr, zc, ye1, ye2, ye3, ye4, ye5, ye6, zp, zd, zt, zm, zi0, zi1, zi2, zi3, zi4, AZ, tr7, t39, t40, t41, t42, t42b, t43, t43b⟩ := DV7b hT tz
      cases FE_fun w1 (FE_at (k := 6) AZ rfl (by decide) rfl)
      cases FE_fun w2 (FE_at (k := 7) AZ rfl (by decide) rfl)
      cases FE_fun w3 (FE_at (k := 8) AZ rfl (by decide) rfl)
      cases FE_fun w4 (FE_at (k := 9) AZ rfl (by decide) rfl)
      cases FE_fun w5 (FE_at (k := 10) AZ rfl (by decide) rfl)
      cases FE_fun w6 (FE_at (k := 11) AZ rfl (by decide) rfl)
      obtain ⟨qo, qh, rc, rp, fS, fO, fM, fC, AR, t44, t45, t46, t47, B44, B45, B46, B47, hRI⟩ := DV5r hT tr7
      obtain ⟨cA, B39⟩ := ints_of hT t39 (by decide) rfl
      obtain ⟨ct, B42⟩ := ints_of hT t42 (by decide) rfl
      obtain ⟨gd, B42b⟩ := ints_of hT t42b (by decide) rfl
      obtain ⟨nw, B43⟩ := ints_of hT t43 (by decide) rfl
      obtain ⟨nx, B43b⟩ := ints_of hT t43b (by decide) rfl
      have hpw : ∀ j : Nat, j < 128 → pw j = nI (tN (pw j)) ∧ tN (pw j) ≤ 1093 := row_nn hT t40 wA rfl (by omega)
      refine ⟨13, _, _, by decide, K_X11_from1 l g x0 t0 va pa c3 c4 c5 c6 c7 c8 c9 sp nv np cc fB i q (q + 1) (q + 2) (q + 3) (q + 4) (q + 5) (q + 6) (q + 7) (P i).c v (v + 1) (v + 2) (v + 3) (v + 4) (v + 5) (v + 6) (v + 7) (v + 8) (v + 9) (v + 10) (v + 11) v15 (V (P i).v).p (nI (V (P i).v).lc) (V (P i).v).de gl yk yt yd yu yb kN tO (P i).h (P i).k (P i).a (P i).b (P i).o W R (nwr (V (P i).v).kn) (nwr (V (P i).v).mn) (kx (V (P i).v)) (V (P i).v).mu (V (P i).v).mn zr zc ze1 ze2 ze3 ze4 ze5 ze6 zp zd zt zm zi0 zi1 zi2 zi3 zi4 cA pw ct nw nx (zr + 1) qo (zr + 3) qh fS fO fM fC rc rp p1 p2 hi hnp hB hw.1 hw.2.1 hH hCa (hbj_of okV.1 hw (hZ.2.1 i hi)) okV.1 hpw hRI, vaP_cons A0 (vaP_cons k11 (vaP_cons A5 (vaP_cons BK (vaP_cons BT (vaP_cons (hPC 0 _ rfl) (vaP_cons (hPC 1 _ rfl) (vaP_cons (hPC 2 _ rfl) (vaP_cons (hPC 3 _ rfl) (vaP_cons (hPC 4 _ rfl) (vaP_cons (hPC 5 _ rfl) (vaP_cons B6 (vaP_cons B7 (vaP_cons (hP0 0 _ rfl) (vaP_cons (hP0 4 _ rfl) (vaP_cons (hP0 6 _ rfl) (vaP_cons (hP0 8 _ rfl) (vaP_cons (hP0 2 _ rfl) (vaP_cons (hP0 3 _ rfl) (vaP_cons AZ (vaP_cons B39 (vaP_cons wA (vaP_cons B42 (vaP_cons B43 (vaP_cons B43b (vaP_cons AR (vaP_cons B44 (vaP_cons B45 (vaP_cons B46 (vaP_cons B47 vaP_nil))))))))))))))))))))))))))))), D_keys (K := fun u => (if u = yt then 1001 else if u = (v + 6) then 1002 else if u = (v + 3) then 1003 else if u = ze6 then 1004 else Γ u)) (tl := [1, 21, 5, 38, 1001, 4, 31, 32, 33, 34, 35, 36, 37, 3, 24, 1002, 26, 23, 1003, 6, 39, 40, 42, 43, 1004, 7, 44, 45, 46, 47]) (by
        show [(if x0 = yt then 1001 else if x0 = (v + 6) then 1002 else if x0 = (v + 3) then 1003 else if x0 = ze6 then 1004 else Γ x0), (if pa = yt then 1001 else if pa = (v + 6) then 1002 else if pa = (v + 3) then 1003 else if pa = ze6 then 1004 else Γ pa), (if c3 = yt then 1001 else if c3 = (v + 6) then 1002 else if c3 = (v + 3) then 1003 else if c3 = ze6 then 1004 else Γ c3), (if yk = yt then 1001 else if yk = (v + 6) then 1002 else if yk = (v + 3) then 1003 else if yk = ze6 then 1004 else Γ yk), (if yt = yt then 1001 else if yt = (v + 6) then 1002 else if yt = (v + 3) then 1003 else if yt = ze6 then 1004 else Γ yt), (if q = yt then 1001 else if q = (v + 6) then 1002 else if q = (v + 3) then 1003 else if q = ze6 then 1004 else Γ q), (if (q + 1) = yt then 1001 else if (q + 1) = (v + 6) then 1002 else if (q + 1) = (v + 3) then 1003 else if (q + 1) = ze6 then 1004 else Γ (q + 1)), (if (q + 2) = yt then 1001 else if (q + 2) = (v + 6) then 1002 else if (q + 2) = (v + 3) then 1003 else if (q + 2) = ze6 then 1004 else Γ (q + 2)), (if (q + 3) = yt then 1001 else if (q + 3) = (v + 6) then 1002 else if (q + 3) = (v + 3) then 1003 else if (q + 3) = ze6 then 1004 else Γ (q + 3)), (if (q + 4) = yt then 1001 else if (q + 4) = (v + 6) then 1002 else if (q + 4) = (v + 3) then 1003 else if (q + 4) = ze6 then 1004 else Γ (q + 4)), (if (q + 5) = yt then 1001 else if (q + 5) = (v + 6) then 1002 else if (q + 5) = (v + 3) then 1003 else if (q + 5) = ze6 then 1004 else Γ (q + 5)), (if (q + 6) = yt then 1001 else if (q + 6) = (v + 6) then 1002 else if (q + 6) = (v + 3) then 1003 else if (q + 6) = ze6 then 1004 else Γ (q + 6)), (if (q + 7) = yt then 1001 else if (q + 7) = (v + 6) then 1002 else if (q + 7) = (v + 3) then 1003 else if (q + 7) = ze6 then 1004 else Γ (q + 7)), (if v = yt then 1001 else if v = (v + 6) then 1002 else if v = (v + 3) then 1003 else if v = ze6 then 1004 else Γ v), (if (v + 4) = yt then 1001 else if (v + 4) = (v + 6) then 1002 else if (v + 4) = (v + 3) then 1003 else if (v + 4) = ze6 then 1004 else Γ (v + 4)), (if (v + 6) = yt then 1001 else if (v + 6) = (v + 6) then 1002 else if (v + 6) = (v + 3) then 1003 else if (v + 6) = ze6 then 1004 else Γ (v + 6)), (if (v + 8) = yt then 1001 else if (v + 8) = (v + 6) then 1002 else if (v + 8) = (v + 3) then 1003 else if (v + 8) = ze6 then 1004 else Γ (v + 8)), (if (v + 2) = yt then 1001 else if (v + 2) = (v + 6) then 1002 else if (v + 2) = (v + 3) then 1003 else if (v + 2) = ze6 then 1004 else Γ (v + 2)), (if (v + 3) = yt then 1001 else if (v + 3) = (v + 6) then 1002 else if (v + 3) = (v + 3) then 1003 else if (v + 3) = ze6 then 1004 else Γ (v + 3)), (if c4 = yt then 1001 else if c4 = (v + 6) then 1002 else if c4 = (v + 3) then 1003 else if c4 = ze6 then 1004 else Γ c4), (if zc = yt then 1001 else if zc = (v + 6) then 1002 else if zc = (v + 3) then 1003 else if zc = ze6 then 1004 else Γ zc), (if ze1 = yt then 1001 else if ze1 = (v + 6) then 1002 else if ze1 = (v + 3) then 1003 else if ze1 = ze6 then 1004 else Γ ze1), (if ze3 = yt then 1001 else if ze3 = (v + 6) then 1002 else if ze3 = (v + 3) then 1003 else if ze3 = ze6 then 1004 else Γ ze3), (if ze5 = yt then 1001 else if ze5 = (v + 6) then 1002 else if ze5 = (v + 3) then 1003 else if ze5 = ze6 then 1004 else Γ ze5), (if ze6 = yt then 1001 else if ze6 = (v + 6) then 1002 else if ze6 = (v + 3) then 1003 else if ze6 = ze6 then 1004 else Γ ze6), (if zr = yt then 1001 else if zr = (v + 6) then 1002 else if zr = (v + 3) then 1003 else if zr = ze6 then 1004 else Γ zr), (if (zr + 1) = yt then 1001 else if (zr + 1) = (v + 6) then 1002 else if (zr + 1) = (v + 3) then 1003 else if (zr + 1) = ze6 then 1004 else Γ (zr + 1)), (if qo = yt then 1001 else if qo = (v + 6) then 1002 else if qo = (v + 3) then 1003 else if qo = ze6 then 1004 else Γ qo), (if (zr + 3) = yt then 1001 else if (zr + 3) = (v + 6) then 1002 else if (zr + 3) = (v + 3) then 1003 else if (zr + 3) = ze6 then 1004 else Γ (zr + 3)), (if qh = yt then 1001 else if qh = (v + 6) then 1002 else if qh = (v + 3) then 1003 else if qh = ze6 then 1004 else Γ qh)] = _
        rw [(show (if x0 = yt then 1001 else if x0 = (v + 6) then 1002 else if x0 = (v + 3) then 1003 else if x0 = ze6 then 1004 else Γ x0) = 1 by rw [if_neg (nt_ne tx t38b (by decide)), if_neg (nt_ne tx y6 (by decide)), if_neg (nt_ne tx y3 (by decide)), if_neg (nt_ne tx t43b (by decide)), tx]), (show (if pa = yt then 1001 else if pa = (v + 6) then 1002 else if pa = (v + 3) then 1003 else if pa = ze6 then 1004 else Γ pa) = 21 by rw [if_neg (nt_ne ep t38b (by decide)), if_neg (nt_ne ep y6 (by decide)), if_neg (nt_ne ep y3 (by decide)), if_neg (nt_ne ep t43b (by decide)), ep]), (show (if c3 = yt then 1001 else if c3 = (v + 6) then 1002 else if c3 = (v + 3) then 1003 else if c3 = ze6 then 1004 else Γ c3) = 5 by rw [if_neg (nt_ne t5 t38b (by decide)), if_neg (nt_ne t5 y6 (by decide)), if_neg (nt_ne t5 y3 (by decide)), if_neg (nt_ne t5 t43b (by decide)), t5]), (show (if yk = yt then 1001 else if yk = (v + 6) then 1002 else if yk = (v + 3) then 1003 else if yk = ze6 then 1004 else Γ yk) = 38 by rw [if_neg (r4), if_neg (nt_ne t38 y6 (by decide)), if_neg (nt_ne t38 y3 (by decide)), if_neg (nt_ne t38 t43b (by decide)), t38]), (show (if yt = yt then 1001 else if yt = (v + 6) then 1002 else if yt = (v + 3) then 1003 else if yt = ze6 then 1004 else Γ yt) = 1001 by rw [if_pos rfl]), (show (if q = yt then 1001 else if q = (v + 6) then 1002 else if q = (v + 3) then 1003 else if q = ze6 then 1004 else Γ q) = 4 by rw [if_neg (nt_ne tq4 t38b (by decide)), if_neg (nt_ne tq4 y6 (by decide)), if_neg (nt_ne tq4 y3 (by decide)), if_neg (nt_ne tq4 t43b (by decide)), tq4]), (show (if (q + 1) = yt then 1001 else if (q + 1) = (v + 6) then 1002 else if (q + 1) = (v + 3) then 1003 else if (q + 1) = ze6 then 1004 else Γ (q + 1)) = 31 by rw [if_neg (nt_ne s1 t38b (by decide)), if_neg (nt_ne s1 y6 (by decide)), if_neg (nt_ne s1 y3 (by decide)), if_neg (nt_ne s1 t43b (by decide)), s1]), (show (if (q + 2) = yt then 1001 else if (q + 2) = (v + 6) then 1002 else if (q + 2) = (v + 3) then 1003 else if (q + 2) = ze6 then 1004 else Γ (q + 2)) = 32 by rw [if_neg (nt_ne s2 t38b (by decide)), if_neg (nt_ne s2 y6 (by decide)), if_neg (nt_ne s2 y3 (by decide)), if_neg (nt_ne s2 t43b (by decide)), s2]), (show (if (q + 3) = yt then 1001 else if (q + 3) = (v + 6) then 1002 else if (q + 3) = (v + 3) then 1003 else if (q + 3) = ze6 then 1004 else Γ (q + 3)) = 33 by rw [if_neg (nt_ne s3 t38b (by decide)), if_neg (nt_ne s3 y6 (by decide)), if_neg (nt_ne s3 y3 (by decide)), if_neg (nt_ne s3 t43b (by decide)), s3]), (show (if (q + 4) = yt then 1001 else if (q + 4) = (v + 6) then 1002 else if (q + 4) = (v + 3) then 1003 else if (q + 4) = ze6 then 1004 else Γ (q + 4)) = 34 by rw [if_neg (nt_ne s4 t38b (by decide)), if_neg (nt_ne s4 y6 (by decide)), if_neg (nt_ne s4 y3 (by decide)), if_neg (nt_ne s4 t43b (by decide)), s4]), (show (if (q + 5) = yt then 1001 else if (q + 5) = (v + 6) then 1002 else if (q + 5) = (v + 3) then 1003 else if (q + 5) = ze6 then 1004 else Γ (q + 5)) = 35 by rw [if_neg (nt_ne s5 t38b (by decide)), if_neg (nt_ne s5 y6 (by decide)), if_neg (nt_ne s5 y3 (by decide)), if_neg (nt_ne s5 t43b (by decide)), s5]), (show (if (q + 6) = yt then 1001 else if (q + 6) = (v + 6) then 1002 else if (q + 6) = (v + 3) then 1003 else if (q + 6) = ze6 then 1004 else Γ (q + 6)) = 36 by rw [if_neg (nt_ne s6 t38b (by decide)), if_neg (nt_ne s6 y6 (by decide)), if_neg (nt_ne s6 y3 (by decide)), if_neg (nt_ne s6 t43b (by decide)), s6]), (show (if (q + 7) = yt then 1001 else if (q + 7) = (v + 6) then 1002 else if (q + 7) = (v + 3) then 1003 else if (q + 7) = ze6 then 1004 else Γ (q + 7)) = 37 by rw [if_neg (nt_ne s7 t38b (by decide)), if_neg (nt_ne s7 y6 (by decide)), if_neg (nt_ne s7 y3 (by decide)), if_neg (nt_ne s7 t43b (by decide)), s7]), (show (if v = yt then 1001 else if v = (v + 6) then 1002 else if v = (v + 3) then 1003 else if v = ze6 then 1004 else Γ v) = 3 by rw [if_neg (nt_ne s0 t38b (by decide)), if_neg (nt_ne s0 y6 (by decide)), if_neg (nt_ne s0 y3 (by decide)), if_neg (nt_ne s0 t43b (by decide)), s0]), (show (if (v + 4) = yt then 1001 else if (v + 4) = (v + 6) then 1002 else if (v + 4) = (v + 3) then 1003 else if (v + 4) = ze6 then 1004 else Γ (v + 4)) = 24 by rw [if_neg (nt_ne y4 t38b (by decide)), if_neg (by omega), if_neg (nt_ne y4 y3 (by decide)), if_neg (nt_ne y4 t43b (by decide)), y4]), (show (if (v + 6) = yt then 1001 else if (v + 6) = (v + 6) then 1002 else if (v + 6) = (v + 3) then 1003 else if (v + 6) = ze6 then 1004 else Γ (v + 6)) = 1002 by rw [if_neg (nt_ne y6 t38b (by decide)), if_pos rfl]), (show (if (v + 8) = yt then 1001 else if (v + 8) = (v + 6) then 1002 else if (v + 8) = (v + 3) then 1003 else if (v + 8) = ze6 then 1004 else Γ (v + 8)) = 26 by rw [if_neg (nt_ne y8 t38b (by decide)), if_neg (nt_ne y8 y6 (by decide)), if_neg (nt_ne y8 y3 (by decide)), if_neg (nt_ne y8 t43b (by decide)), y8]), (show (if (v + 2) = yt then 1001 else if (v + 2) = (v + 6) then 1002 else if (v + 2) = (v + 3) then 1003 else if (v + 2) = ze6 then 1004 else Γ (v + 2)) = 23 by rw [if_neg (nt_ne y2 t38b (by decide)), if_neg (nt_ne y2 y6 (by decide)), if_neg (by omega), if_neg (nt_ne y2 t43b (by decide)), y2]), (show (if (v + 3) = yt then 1001 else if (v + 3) = (v + 6) then 1002 else if (v + 3) = (v + 3) then 1003 else if (v + 3) = ze6 then 1004 else Γ (v + 3)) = 1003 by rw [if_neg (nt_ne y3 t38b (by decide)), if_neg (nt_ne y3 y6 (by decide)), if_pos rfl]), (show (if c4 = yt then 1001 else if c4 = (v + 6) then 1002 else if c4 = (v + 3) then 1003 else if c4 = ze6 then 1004 else Γ c4) = 6 by rw [if_neg (nt_ne tz t38b (by decide)), if_neg (nt_ne tz y6 (by decide)), if_neg (nt_ne tz y3 (by decide)), if_neg (nt_ne tz t43b (by decide)), tz]), (show (if zc = yt then 1001 else if zc = (v + 6) then 1002 else if zc = (v + 3) then 1003 else if zc = ze6 then 1004 else Γ zc) = 39 by rw [if_neg (nt_ne t39 t38b (by decide)), if_neg (nt_ne t39 y6 (by decide)), if_neg (nt_ne t39 y3 (by decide)), if_neg (nt_ne t39 t43b (by decide)), t39]), (show (if ze1 = yt then 1001 else if ze1 = (v + 6) then 1002 else if ze1 = (v + 3) then 1003 else if ze1 = ze6 then 1004 else Γ ze1) = 40 by rw [if_neg (nt_ne t40 t38b (by decide)), if_neg (nt_ne t40 y6 (by decide)), if_neg (nt_ne t40 y3 (by decide)), if_neg (nt_ne t40 t43b (by decide)), t40]), (show (if ze3 = yt then 1001 else if ze3 = (v + 6) then 1002 else if ze3 = (v + 3) then 1003 else if ze3 = ze6 then 1004 else Γ ze3) = 42 by rw [if_neg (nt_ne t42 t38b (by decide)), if_neg (nt_ne t42 y6 (by decide)), if_neg (nt_ne t42 y3 (by decide)), if_neg (nt_ne t42 t43b (by decide)), t42]), (show (if ze5 = yt then 1001 else if ze5 = (v + 6) then 1002 else if ze5 = (v + 3) then 1003 else if ze5 = ze6 then 1004 else Γ ze5) = 43 by rw [if_neg (nt_ne t43 t38b (by decide)), if_neg (nt_ne t43 y6 (by decide)), if_neg (nt_ne t43 y3 (by decide)), if_neg (w56), t43]), (show (if ze6 = yt then 1001 else if ze6 = (v + 6) then 1002 else if ze6 = (v + 3) then 1003 else if ze6 = ze6 then 1004 else Γ ze6) = 1004 by rw [if_neg (nt_ne t43b t38b (by decide)), if_neg (nt_ne t43b y6 (by decide)), if_neg (nt_ne t43b y3 (by decide)), if_pos rfl]), (show (if zr = yt then 1001 else if zr = (v + 6) then 1002 else if zr = (v + 3) then 1003 else if zr = ze6 then 1004 else Γ zr) = 7 by rw [if_neg (nt_ne tr7 t38b (by decide)), if_neg (nt_ne tr7 y6 (by decide)), if_neg (nt_ne tr7 y3 (by decide)), if_neg (nt_ne tr7 t43b (by decide)), tr7]), (show (if (zr + 1) = yt then 1001 else if (zr + 1) = (v + 6) then 1002 else if (zr + 1) = (v + 3) then 1003 else if (zr + 1) = ze6 then 1004 else Γ (zr + 1)) = 44 by rw [if_neg (nt_ne t44 t38b (by decide)), if_neg (nt_ne t44 y6 (by decide)), if_neg (nt_ne t44 y3 (by decide)), if_neg (nt_ne t44 t43b (by decide)), t44]), (show (if qo = yt then 1001 else if qo = (v + 6) then 1002 else if qo = (v + 3) then 1003 else if qo = ze6 then 1004 else Γ qo) = 45 by rw [if_neg (nt_ne t45 t38b (by decide)), if_neg (nt_ne t45 y6 (by decide)), if_neg (nt_ne t45 y3 (by decide)), if_neg (nt_ne t45 t43b (by decide)), t45]), (show (if (zr + 3) = yt then 1001 else if (zr + 3) = (v + 6) then 1002 else if (zr + 3) = (v + 3) then 1003 else if (zr + 3) = ze6 then 1004 else Γ (zr + 3)) = 46 by rw [if_neg (nt_ne t46 t38b (by decide)), if_neg (nt_ne t46 y6 (by decide)), if_neg (nt_ne t46 y3 (by decide)), if_neg (nt_ne t46 t43b (by decide)), t46]), (show (if qh = yt then 1001 else if qh = (v + 6) then 1002 else if qh = (v + 3) then 1003 else if qh = ze6 then 1004 else Γ qh) = 47 by rw [if_neg (nt_ne t47 t38b (by decide)), if_neg (nt_ne t47 y6 (by decide)), if_neg (nt_ne t47 y3 (by decide)), if_neg (nt_ne t47 t43b (by decide)), t47])]) (by decide) (by
        intro k w hw
        match k, hw with
        | 0, hw => cases hw; show Γ x0 ≠ 0; rw [tx]; decide
        | 1, hw => cases hw; show Γ pa ≠ 0; rw [ep]; decide
        | 2, hw => cases hw; show Γ c3 ≠ 0; rw [t5]; decide
        | 3, hw => cases hw; show Γ yk ≠ 0; rw [t38]; decide
        | 4, hw => cases hw; show Γ yt ≠ 0; rw [t38b]; decide
        | 5, hw => cases hw; show Γ q ≠ 0; rw [tq4]; decide
        | 6, hw => cases hw; show Γ (q + 1) ≠ 0; rw [s1]; decide
        | 7, hw => cases hw; show Γ (q + 2) ≠ 0; rw [s2]; decide
        | 8, hw => cases hw; show Γ (q + 3) ≠ 0; rw [s3]; decide
        | 9, hw => cases hw; show Γ (q + 4) ≠ 0; rw [s4]; decide
        | 10, hw => cases hw; show Γ (q + 5) ≠ 0; rw [s5]; decide
        | 11, hw => cases hw; show Γ (q + 6) ≠ 0; rw [s6]; decide
        | 12, hw => cases hw; show Γ (q + 7) ≠ 0; rw [s7]; decide
        | 13, hw => cases hw; show Γ v ≠ 0; rw [s0]; decide
        | 14, hw => cases hw; show Γ (v + 4) ≠ 0; rw [y4]; decide
        | 15, hw => cases hw; show Γ (v + 6) ≠ 0; rw [y6]; decide
        | 16, hw => cases hw; show Γ (v + 8) ≠ 0; rw [y8]; decide
        | 17, hw => cases hw; show Γ (v + 2) ≠ 0; rw [y2]; decide
        | 18, hw => cases hw; show Γ (v + 3) ≠ 0; rw [y3]; decide
        | 19, hw => cases hw; show Γ c4 ≠ 0; rw [tz]; decide
        | 20, hw => cases hw; show Γ zc ≠ 0; rw [t39]; decide
        | 21, hw => cases hw; show Γ ze1 ≠ 0; rw [t40]; decide
        | 22, hw => cases hw; show Γ ze3 ≠ 0; rw [t42]; decide
        | 23, hw => cases hw; show Γ ze5 ≠ 0; rw [t43]; decide
        | 24, hw => cases hw; show Γ ze6 ≠ 0; rw [t43b]; decide
        | 25, hw => cases hw; show Γ zr ≠ 0; rw [tr7]; decide
        | 26, hw => cases hw; show Γ (zr + 1) ≠ 0; rw [t44]; decide
        | 27, hw => cases hw; show Γ qo ≠ 0; rw [t45]; decide
        | 28, hw => cases hw; show Γ (zr + 3) ≠ 0; rw [t46]; decide
        | 29, hw => cases hw; show Γ qh ≠ 0; rw [t47]; decide
        | k + 30, hw => cases hw), fun x u H1 hp hP hz hk hT1 hun => ?_⟩
      obtain ⟨hx, rfl⟩ := hp
      refine ⟨congrArg Value.int (hx.trans (fr_cls hnp hi okV (hZ.2.2 _ hv) hw (hZ.2.1 i hi) wP hRI)), ⟨hRY.1.keep hT tx hun rfl, c4, ze1, ze2, ze3, ze4, _, _, pw, sa0, FE_at (k := 4) (hP 0 _ rfl) rfl (by decide) rfl, FE_at (k := 6) (hP 19 _ rfl) rfl (by decide) rfl, FE_at (k := 7) (hP 19 _ rfl) rfl (by decide) rfl, FE_at (k := 8) (hP 19 _ rfl) rfl (by decide) rfl, FE_at (k := 9) (hP 19 _ rfl) rfl (by decide) rfl, FE_at (k := 10) (hP 19 _ rfl) rfl (by decide) rfl, FE_at (k := 11) (hP 19 _ rfl) rfl (by decide) rfl, hP 21 _ rfl, va_at.kept wS (hun.arr t41 (by decide) rfl (mdn_at (l := [(41, 0)]) rfl (by decide))), wP, wT, w34, PQ.ne w56 (fr_pq okV.1 hRI)⟩⟩

set_option maxHeartbeats 8000000 in
theorem E12_fromP {l : Launch} {g : GG} {Γ : Nat → Nat} {m0 n nv np : Nat} {fb : Nat → Int32} {V : Nat → VV} {P : Nat → PP} (hU : UQ TS0 Γ) (hnv : nv ≤ 10) (hnp : np ≤ 12) (hZ : PLX nv V np P) (tm : Γ m0 = 60) (p0 p1 p2 : Int32) : EX l g yX12_from cX12_from 8 (some .int) pX12_from_0 Γ [.ref m0, .int p0, .int p1, .int p2] (fun H => RR1 g m0 n fb nv np H ∧ RRV g m0 nv V H ∧ RRP g m0 np P H ∧ RMM g m0 H) (fun _ v _ => v = .int (frA np V P p0 p1 p2)) :=
  EX_of (SX12_from_0 l g) hU ⟨av_ref tm (by decide), avi_top _, avi_top _, avi_top _, trivial⟩ rfl fun H hT hR => by
    obtain ⟨hR, ⟨B, F, hB, hV⟩, ⟨C, G, hC, hG⟩, M19, M20⟩ := hR
    obtain ⟨tr, er, h1, h2, h3, h4, h5⟩ := hR.tags hT tm
    obtain ⟨ws, A0, hv⟩ := h_obj hT (by rw [tm]; decide) ((congrArg TS0.1 tm).trans rfl)
    have hlen := KV_len (KV_of hv)
    have F27 := at_fe (k := 27) A0 rfl (by rw [hlen]; decide) h4
    by_cases hbad : F_X12_isPlan np p0 = 0 ∨ F_X12_isNews p1 = 0 ∨ F_X12_isIn p2 0 23 = 0
    · refine ⟨2, _, _, by decide, K_X12_from0 l g m0 ws np p0 p1 p2 hlen F27 hbad, vaP_cons A0 vaP_nil, D_tags (tl := [60]) (by show [Γ m0] = _; rw [tm]) (by decide) (by decide), fun x u H1 hp hP hz hk hT1 hun => ?_⟩
      rw [hp.1, fr0_val, fr_bad hbad]
    · obtain ⟨ha, hbad⟩ := not_or.mp hbad
      obtain ⟨hb1, hc1⟩ := not_or.mp hbad
      obtain ⟨dx1, dx2⟩ := rp_at (n := np) (by omega) ha
      obtain ⟨dy1, dy2⟩ := hn_at (show ¬ F_X11_isNews p1 = 0 from hb1)
      obtain ⟨dz1, dz2⟩ := i23_at hc1
      obtain ⟨i, hi, rfl⟩ : ∃ i : Nat, i < np ∧ p0 = nI i := ⟨tN p0, dx2, dx1⟩
      obtain ⟨ni, hni, rfl⟩ : ∃ i : Nat, i < 4 ∧ p1 = nI i := ⟨tN p1, dy2, dy1⟩
      obtain ⟨h, hz23, rfl⟩ : ∃ i : Nat, i ≤ 23 ∧ p2 = nI i := ⟨tN p2, dz2, dz1⟩
      have F19 := at_fe (k := 19) A0 rfl (by rw [hlen]; decide) M19
      have F20 := at_fe (k := 20) A0 rfl (by rw [hlen]; decide) M20
      have G6 := at_fe (k := 6) A0 rfl (by rw [hlen]; decide) (hB 6 (by decide)).1
      have G7 := at_fe (k := 7) A0 rfl (by rw [hlen]; decide) (hB 7 (by decide)).1
      have G12 := at_fe (k := 12) A0 rfl (by rw [hlen]; decide) (hB 12 (by decide)).1
      have G13 := at_fe (k := 13) A0 rfl (by rw [hlen]; decide) (hB 13 (by decide)).1
      have G14 := at_fe (k := 14) A0 rfl (by rw [hlen]; decide) (hB 14 (by decide)).1
      have G15 := at_fe (k := 15) A0 rfl (by rw [hlen]; decide) (hB 15 (by decide)).1
      have G16 := at_fe (k := 16) A0 rfl (by rw [hlen]; decide) (hB 16 (by decide)).1
      have G17 := at_fe (k := 17) A0 rfl (by rw [hlen]; decide) (hB 17 (by decide)).1
      have G8 := at_fe (k := 8) A0 rfl (by rw [hlen]; decide) (hB 8 (by decide)).1
      have G9 := at_fe (k := 9) A0 rfl (by rw [hlen]; decide) (hB 9 (by decide)).1
      have G11 := at_fe (k := 11) A0 rfl (by rw [hlen]; decide) (hB 11 (by decide)).1
      have G10 := at_fe (k := 10) A0 rfl (by rw [hlen]; decide) (hB 10 (by decide)).1
      have t6 : Γ (B 6) = 62 := (hB.tag hT tm (k := 6) (by decide)).1
      have t7 : Γ (B 7) = 63 := (hB.tag hT tm (k := 7) (by decide)).1
      have t12 : Γ (B 12) = 66 := (hB.tag hT tm (k := 12) (by decide)).1
      have t13 : Γ (B 13) = 122 := (hB.tag hT tm (k := 13) (by decide)).1
      have t14 : Γ (B 14) = 67 := (hB.tag hT tm (k := 14) (by decide)).1
      have t15 : Γ (B 15) = 123 := (hB.tag hT tm (k := 15) (by decide)).1
      have t16 : Γ (B 16) = 68 := (hB.tag hT tm (k := 16) (by decide)).1
      have t17 : Γ (B 17) = 69 := (hB.tag hT tm (k := 17) (by decide)).1
      have t8 : Γ (B 8) = 64 := (hB.tag hT tm (k := 8) (by decide)).1
      have t9 : Γ (B 9) = 65 := (hB.tag hT tm (k := 9) (by decide)).1
      have t11 : Γ (B 11) = 121 := (hB.tag hT tm (k := 11) (by decide)).1
      have t10 : Γ (B 10) = 120 := (hB.tag hT tm (k := 10) (by decide)).1
      have G21 := at_fe (k := 21) A0 rfl (by rw [hlen]; decide) (hC 21 (by decide)).1
      have G22 := at_fe (k := 22) A0 rfl (by rw [hlen]; decide) (hC 22 (by decide)).1
      have G23 := at_fe (k := 23) A0 rfl (by rw [hlen]; decide) (hC 23 (by decide)).1
      have G24 := at_fe (k := 24) A0 rfl (by rw [hlen]; decide) (hC 24 (by decide)).1
      have G25 := at_fe (k := 25) A0 rfl (by rw [hlen]; decide) (hC 25 (by decide)).1
      have G26 := at_fe (k := 26) A0 rfl (by rw [hlen]; decide) (hC 26 (by decide)).1
      have t21 : Γ (C 21) = 70 := (hC.tag hT tm (k := 21) (by decide)).1
      have t22 : Γ (C 22) = 71 := (hC.tag hT tm (k := 22) (by decide)).1
      have t23 : Γ (C 23) = 72 := (hC.tag hT tm (k := 23) (by decide)).1
      have t24 : Γ (C 24) = 73 := (hC.tag hT tm (k := 24) (by decide)).1
      have t25 : Γ (C 25) = 74 := (hC.tag hT tm (k := 25) (by decide)).1
      have t26 : Γ (C 26) = 75 := (hC.tag hT tm (k := 26) (by decide)).1
      obtain ⟨w28, G28, a28⟩ := hv.get (k := 28) rfl
      obtain ⟨b28, rfl, t28, -⟩ := avi_ref rfl a28
      have t28 : Γ b28 = 76 := t28
      obtain ⟨W, B28⟩ := ints_of hT t28 (by decide) rfl
      obtain ⟨w29, G29, a29⟩ := hv.get (k := 29) rfl
      obtain ⟨b29, rfl, t29, -⟩ := avi_ref rfl a29
      have t29 : Γ b29 = 77 := t29
      obtain ⟨R, B29⟩ := ints_of hT t29 (by decide) rfl
      obtain ⟨w30, G30, a30⟩ := hv.get (k := 30) rfl
      obtain ⟨b30, rfl, t30, -⟩ := avi_ref rfl a30
      have t30 : Γ b30 = 78 := t30
      obtain ⟨A30, B30⟩ := ints_of hT t30 (by decide) rfl
      obtain ⟨w31, G31, a31⟩ := hv.get (k := 31) rfl
      obtain ⟨b31, rfl, t31, -⟩ := avi_ref rfl a31
      have t31 : Γ b31 = 79 := t31
      obtain ⟨A31, B31⟩ := ints_of hT t31 (by decide) rfl
      obtain ⟨w32, G32, a32⟩ := hv.get (k := 32) rfl
      obtain ⟨b32, rfl, t32, -⟩ := avi_ref rfl a32
      have t32 : Γ b32 = 80 := t32
      obtain ⟨A32, B32⟩ := ints_of hT t32 (by decide) rfl
      obtain ⟨w33, G33, a33⟩ := hv.get (k := 33) rfl
      obtain ⟨b33, rfl, t33, -⟩ := avi_ref rfl a33
      have t33 : Γ b33 = 124 := t33
      obtain ⟨A33, B33⟩ := ints_of hT t33 (by decide) rfl
      obtain ⟨w34, G34, a34⟩ := hv.get (k := 34) rfl
      obtain ⟨b34, rfl, t34, -⟩ := avi_ref rfl a34
      have t34 : Γ b34 = 81 := t34
      obtain ⟨gN, B34, -⟩ := h_ints (Or.inl rfl) hT (by rw [t34]; decide) ((congrArg TS0.1 t34).trans rfl)
      obtain ⟨e1, e2, e3, e4, e5, e6⟩ := plan_rows_ok hnv hnp hV hZ.1 hG
      obtain ⟨hv9, hw⟩ := hZ.1 i hi
      obtain ⟨ok, hr⟩ := hV (P i).v hv9
      have hc40 := hw.1
      have ec : tN (G 22 i) = (P i).c := by rw [(hG i hi).2.1, tN_nI (by omega)]
      have d5 := e5 i hi
      have d6 := e6 i hi
      rw [ec] at d5 d6
      have g4 : PRW G i (P i) := (hG i hi).2.2
      have tg : [Γ m0, Γ (B 6), Γ (B 7), Γ (B 12), Γ (B 13), Γ (B 14), Γ (B 15), Γ (B 16), Γ (B 17), Γ (C 21), Γ (C 22), Γ (C 23), Γ (C 24), Γ (C 25), Γ (C 26), Γ b28, Γ b29, Γ (B 8), Γ (B 9), Γ (B 11), Γ b30, Γ b31, Γ b32, Γ b33, Γ (B 10), Γ b34] = [60, 62, 63, 66, 122, 67, 123, 68, 69, 70, 71, 72, 73, 74, 75, 76, 77, 64, 65, 121, 78, 79, 80, 124, 120, 81] := by rw [tm, t6, t7, t12, t13, t14, t15, t16, t17, t21, t22, t23, t24, t25, t26, t28, t29, t8, t9, t11, t30, t31, t32, t33, t10, t34]
      refine ⟨241, _, _, by decide, K_X12_from1 l g m0 ws np (B 6) (F 6) (B 7) (F 7) (B 12) (F 12) (B 13) (F 13) (B 14) (F 14) (B 15) (F 15) (B 16) (F 16) (B 17) (F 17) (C 21) (G 21) (C 22) (G 22) (C 23) (G 23) (C 24) (G 24) (C 25) (G 25) (C 26) (G 26) b28 W b29 R (B 8) (F 8) (B 9) (F 9) (B 11) (F 11) b30 A30 b31 A31 b32 A32 b33 A33 (B 10) (F 10) b34 gN (V (P i).v).lc (V (P i).v).p i (P i).v (P i).c ni h hlen F27 G6 G7 G12 G13 G14 G15 G16 G17 G21 G22 G23 G24 G25 G26 G28 G29 G8 G9 G11 G30 G31 G32 G33 G10 G34 F19 F20 (by omega) (by omega) ok.1 ok.2.1 (hG i hi).1 hr.1 hr.2.1 d5 d6 hw.1 (hG i hi).2.1 hnp hi hni hz23, vaP_cons A0 (vaP_cons (hB 6 (by decide)).2 (vaP_cons (hB 7 (by decide)).2 (vaP_cons (hB 12 (by decide)).2 (vaP_cons (hB 13 (by decide)).2 (vaP_cons (hB 14 (by decide)).2 (vaP_cons (hB 15 (by decide)).2 (vaP_cons (hB 16 (by decide)).2 (vaP_cons (hB 17 (by decide)).2 (vaP_cons (hC 21 (by decide)).2 (vaP_cons (hC 22 (by decide)).2 (vaP_cons (hC 23 (by decide)).2 (vaP_cons (hC 24 (by decide)).2 (vaP_cons (hC 25 (by decide)).2 (vaP_cons (hC 26 (by decide)).2 (vaP_cons B28 (vaP_cons B29 (vaP_cons (hB 8 (by decide)).2 (vaP_cons (hB 9 (by decide)).2 (vaP_cons (hB 11 (by decide)).2 (vaP_cons B30 (vaP_cons B31 (vaP_cons B32 (vaP_cons B33 (vaP_cons (hB 10 (by decide)).2 (vaP_cons B34 vaP_nil))))))))))))))))))))))))), D_tags (tl := [60, 62, 63, 66, 122, 67, 123, 68, 69, 70, 71, 72, 73, 74, 75, 76, 77, 64, 65, 121, 78, 79, 80, 124, 120, 81]) tg (by decide) (by decide), fun x u H1 hp hP hz hk hT1 hun => ?_⟩
      rw [hp.1, fr_refM ok (owb_of hT tm hB hV hnv _ hv9) (hZ.2.2 _ hv9) hr hw g4 (hr.2.2.2.1 ni hni).2.1 hni hz23]
      unfold frA
      rw [if_neg ha, if_neg (show ¬ F_X11_isNews (nI ni) = 0 from hb1), if_neg hc1, tN_nI (show i < 2 ^ 31 by omega), tN_nI (show ni < 2 ^ 31 by omega), tN_nI (show h < 2 ^ 31 by omega)]

theorem DV7b {g : GG} {Γ : Nat → Nat} {H : Heap} {c : Nat} (hT : HT g TS0 Γ H) (hc : Γ c = 6) : ∃ (zr zc ze1 ze2 ze3 ze4 ze5 ze6 : Nat) (zp zd zt zm zi0 zi1 zi2 zi3 zi4 : Int32), va_at g.1 CLS (c, .inr (7, [.ref zr, .int zp, .int zd, .int zt, .int zm, .ref zc, .ref ze1, .ref ze2, .ref ze3, .ref ze4, .ref ze5, .ref ze6, .int zi0, .int zi1, .int zi2, .int zi3, .int zi4])) H ∧ Γ zr = 7 ∧ Γ zc = 39 ∧ Γ ze1 = 40 ∧ Γ ze2 = 41 ∧ Γ ze3 = 42 ∧ Γ ze4 = 42 ∧ Γ ze5 = 43 ∧ Γ ze6 = 43 := by
  obtain ⟨vs, A, hv⟩ := h_obj hT (by rw [hc]; decide) ((congrArg TS0.1 hc).trans rfl)
  obtain ⟨w0, s0, rfl, a0, hv⟩ := vr_cons hv
  obtain ⟨w1, s1, rfl, a1, hv⟩ := vr_cons hv
  obtain ⟨w2, s2, rfl, a2, hv⟩ := vr_cons hv
  obtain ⟨w3, s3, rfl, a3, hv⟩ := vr_cons hv
  obtain ⟨w4, s4, rfl, a4, hv⟩ := vr_cons hv
  obtain ⟨w5, s5, rfl, a5, hv⟩ := vr_cons hv
  obtain ⟨w6, s6, rfl, a6, hv⟩ := vr_cons hv
  obtain ⟨w7, s7, rfl, a7, hv⟩ := vr_cons hv
  obtain ⟨w8, s8, rfl, a8, hv⟩ := vr_cons hv
  obtain ⟨w9, s9, rfl, a9, hv⟩ := vr_cons hv
  obtain ⟨w10, s10, rfl, a10, hv⟩ := vr_cons hv
  obtain ⟨w11, s11, rfl, a11, hv⟩ := vr_cons hv
  obtain ⟨w12, s12, rfl, a12, hv⟩ := vr_cons hv
  obtain ⟨w13, s13, rfl, a13, hv⟩ := vr_cons hv
  obtain ⟨w14, s14, rfl, a14, hv⟩ := vr_cons hv
  obtain ⟨w15, s15, rfl, a15, hv⟩ := vr_cons hv
  obtain ⟨w16, s16, rfl, a16, hv⟩ := vr_cons hv
  obtain rfl := vr_nil hv
  obtain ⟨c0, rfl, t0, -⟩ := avi_ref rfl a0
  have t0 : Γ c0 = 7 := t0
  obtain ⟨i1, rfl, -⟩ := avi_int rfl a1
  obtain ⟨i2, rfl, -⟩ := avi_int rfl a2
  obtain ⟨i3, rfl, -⟩ := avi_int rfl a3
  obtain ⟨i4, rfl, -⟩ := avi_int rfl a4
  obtain ⟨c5, rfl, t5, -⟩ := avi_ref rfl a5
  have t5 : Γ c5 = 39 := t5
  obtain ⟨c6, rfl, t6, -⟩ := avi_ref rfl a6
  have t6 : Γ c6 = 40 := t6
  obtain ⟨c7, rfl, t7, -⟩ := avi_ref rfl a7
  have t7 : Γ c7 = 41 := t7
  obtain ⟨c8, rfl, t8, -⟩ := avi_ref rfl a8
  have t8 : Γ c8 = 42 := t8
  obtain ⟨c9, rfl, t9, -⟩ := avi_ref rfl a9
  have t9 : Γ c9 = 42 := t9
  obtain ⟨c10, rfl, t10, -⟩ := avi_ref rfl a10
  have t10 : Γ c10 = 43 := t10
  obtain ⟨c11, rfl, t11, -⟩ := avi_ref rfl a11
  have t11 : Γ c11 = 43 := t11
  obtain ⟨i12, rfl, -⟩ := avi_int rfl a12
  obtain ⟨i13, rfl, -⟩ := avi_int rfl a13
  obtain ⟨i14, rfl, -⟩ := avi_int rfl a14
  obtain ⟨i15, rfl, -⟩ := avi_int rfl a15
  obtain ⟨i16, rfl, -⟩ := avi_int rfl a16
  exact ⟨c0, c5, c6, c7, c8, c9, c10, c11, i1, i2, i3, i4, i12, i13, i14, i15, i16, A, t0, t5, t6, t7, t8, t9, t10, t11⟩
theorem DV5r {g : GG} {Γ : Nat → Nat} {H : Heap} {q : Nat} (hT : HT g TS0 Γ H) (hq : Γ q = 7) : ∃ (qo qh : Nat) (rc rp : Int32) (S O M C : Nat → Int32), va_at g.1 CLS (q, .inr (5, [.ref (q + 1), .ref qo, .ref (q + 3), .int rc, .ref qh, .int rp])) H ∧ Γ (q + 1) = 44 ∧ Γ qo = 45 ∧ Γ (q + 3) = 46 ∧ Γ qh = 47 ∧ AT g 1 128 (q + 1) S H ∧ AT g 1 128 qo O H ∧ AT g 3 128 (q + 3) M H ∧ AT g 1 7 qh C H ∧ RI S M rc := by
  obtain ⟨vs, A, hv⟩ := h_obj hT (by rw [hq]; decide) ((congrArg TS0.1 hq).trans rfl)
  obtain ⟨w0, s0, rfl, a0, hv⟩ := vr_cons hv
  obtain ⟨w1, s1, rfl, a1, hv⟩ := vr_cons hv
  obtain ⟨w2, s2, rfl, a2, hv⟩ := vr_cons hv
  obtain ⟨w3, s3, rfl, a3, hv⟩ := vr_cons hv
  obtain ⟨w4, s4, rfl, a4, hv⟩ := vr_cons hv
  obtain ⟨w5, s5, rfl, a5, hv⟩ := vr_cons hv
  obtain rfl := vr_nil hv
  obtain ⟨c0, rfl, t0, -⟩ := avi_ref rfl a0
  obtain ⟨c1, rfl, t1, -⟩ := avi_ref rfl a1
  obtain ⟨c2, rfl, t2, -⟩ := avi_ref rfl a2
  obtain ⟨i3, rfl, -⟩ := avi_int rfl a3
  obtain ⟨c4, rfl, t4, -⟩ := avi_ref rfl a4
  obtain ⟨i5, rfl, -⟩ := avi_int rfl a5
  obtain ⟨e44, e46, G0, G2, n9, f9, m9, G3, hn9, A44, A46, d1, d2, d3⟩ := (hT.2.1 rfl).2.2 q hq
  cases FE_fun G0 (FE_at (k := 0) A rfl (by decide) rfl)
  cases FE_fun G2 (FE_at (k := 2) A rfl (by decide) rfl)
  cases FE_fun G3 (FE_at (k := 3) A rfl (by decide) rfl)
  have t1 : Γ c1 = 45 := t1
  have t4 : Γ c4 = 47 := t4
  obtain ⟨O, B1⟩ := ints_of hT t1 (by decide) rfl
  obtain ⟨C, B4⟩ := ints_of hT t4 (by decide) rfl
  have en : tN (nI n9) = n9 := tN_nI (by omega)
  refine ⟨c1, c4, nI n9, i5, f9, O, m9, C, A, e44, t1, e46, t4, A44, B1, A46, B4, ?_⟩
  unfold RI
  rw [en]
  refine ⟨rfl, hn9, fun i hi => ?_, d2, d3⟩
  obtain ⟨x, hx, e⟩ := d1 i hi
  obtain ⟨q1, q2⟩ := tN_of (k := x) (by omega) e
  exact ⟨q1, by rw [q2]; exact hx⟩
theorem nt_ne {Γ : Nat → Nat} {u v a b : Nat} (hu : Γ u = a) (hv : Γ v = b) (h : ¬ a = b) : ¬ u = v := fun q => h (by rw [← hu, ← hv, q])

theorem ls_pq {p q pe : Nat} {zp zd zt zm zi0 zi1 de rc rp y z : Int32} {cA pw ct nw nx fS fO fM fC kn mu mn K : Nat → Int32} (hpe : pe ≤ 7) (h : RI fS fM rc) : PQ p q (F_X11_least1 p q zp zd zt zm zi0 zi1 cA pw ct nw nx fS fO fM fC rc rp pe de kn mu mn K y z).2.2.2.2.2.2.2.1 (F_X11_least1 p q zp zd zt zm zi0 zi1 cA pw ct nw nx fS fO fM fC rc rp pe de kn mu mn K y z).2.2.2.2.2.2.2.2.1 := by
  unfold F_X11_least1
  split
  · exact PQ.rfl'
  · split
    · exact PQ.rfl'
    · rename_i c
      have := (hr_at (show ¬ F_X11_isHour z = 0 from c)).2.2
      exact (lh_ok hpe (by omega) h).2.2.1
theorem fd_pq {p q pe : Nat} {zp zd zt zm zi0 zi1 de rc rp y z t w : Int32} {cA pw sa ct gd nw nx fS fO fM fC kn mu mn K : Nat → Int32} (hpe : pe ≤ 7) (h : RI fS fM rc) : PQ p q (F_X11_found1 p q zp zd zt zm zi0 zi1 cA pw sa ct gd nw nx fS fO fM fC rc rp pe de kn mu mn K y z t w).2.2.2.2.2.2.2.1 (F_X11_found1 p q zp zd zt zm zi0 zi1 cA pw sa ct gd nw nx fS fO fM fC rc rp pe de kn mu mn K y z t w).2.2.2.2.2.2.2.2.1 := by
  unfold F_X11_found1
  split
  · exact PQ.rfl'
  · split
    · exact PQ.rfl'
    · rename_i c
      have := (hr_at (show ¬ F_X11_isHour z = 0 from c)).2.2
      split
      · exact PQ.rfl'
      · rename_i c2
        split
        · exact PQ.rfl'
        · split
          · exact lr_ref hpe (by omega) (Int32.not_lt.mp c2) h
          · exact lr_ref hpe (by omega) (Int32.not_lt.mp c2) h
theorem ad_pq {p q pe lc : Nat} {zp zd zt zm zi0 zi1 zi2 zi3 zi4 de rc rp y z : Int32} {cA pw ct nw nx fS fO fM fC kn mu mn K L : Nat → Int32} (hpe : pe ≤ 7) (h : RI fS fM rc) : PQ p q (F_X11_added1 p q zp zd zt zm zi0 zi1 zi2 zi3 zi4 cA pw ct nw nx fS fO fM fC rc rp pe lc de kn mu mn K L y z).2.2.2.2.2.2.2.1 (F_X11_added1 p q zp zd zt zm zi0 zi1 zi2 zi3 zi4 cA pw ct nw nx fS fO fM fC rc rp pe lc de kn mu mn K L y z).2.2.2.2.2.2.2.2.1 := by
  unfold F_X11_added1
  (repeat' split) <;> first | exact PQ.rfl' | exact fa_ref hpe h
theorem wh_pq {p q pe : Nat} {zp zd zt zm zi0 zi1 de rc rp y : Int32} {cA pw ct nw nx fS fO fM fC mu mn K ta : Nat → Int32} (hpe : pe ≤ 7) (hta : ∀ j : Nat, j < 28 → ta j ≤ 24) (h : RI fS fM rc) : PQ p q (F_X11_who1 p q zp zd zt zm zi0 zi1 cA pw ct nw nx fS fO fM fC rc rp pe de mu mn K ta y).2.2.2.2.2.2.1 (F_X11_who1 p q zp zd zt zm zi0 zi1 cA pw ct nw nx fS fO fM fC rc rp pe de mu mn K ta y).2.2.2.2.2.2.2.1 := by
  unfold F_X11_who1
  split
  · exact PQ.rfl'
  · rename_i c
    exact (wh1 hpe hta (hn_at (show ¬ F_X11_isNews y = 0 from c)).2 h pe).2

set_option maxHeartbeats 8000000 in
theorem E11_foundJ {l : Launch} {g : GG} {Γ : Nat → Nat} {x0 n nv np : Nat} {fb : Nat → Int32} {V : Nat → VV} (hU : UQ TS0 Γ) (hnv : nv ≤ 10) (tx : Γ x0 = 1) (p0 : Int32) (p1 : Int32) (p2 : Int32) (p3 : Int32) (p4 : Int32) : EX l g yX11_found cX11_found 8 (some .int) pX11_found_0 Γ [.ref x0, .int p0, .int p1, .int p2, .int p3, .int p4] (fun H => RC1 g x0 n fb nv np H ∧ RCV g x0 nv V H ∧ RYK g x0 H) (fun _ v H1 => RYK g x0 H1) :=
  EX_of (SX11_found_0 l g) hU ⟨av_ref tx (by decide), avi_top _, avi_top _, avi_top _, avi_top _, avi_top _, trivial⟩ rfl fun H hT hR => by
    obtain ⟨hC, hD, hRY⟩ := hR
    have hR := And.intro hC hD
    obtain ⟨hR, va, fA, sp, g1, g9, g10, g14, g15, g16, g17⟩ := hR
    obtain ⟨t0, tq, va', pa, sp', fA', fB, ⟨e0, eq, ea, ep, es⟩, h0, h1, h2, h3, h4, h5, h6, h7, h8, -, -, -, -, h13⟩ := hR.tags hT tx
    cases FE_fun g1 h1
    cases FE_fun g15 h3
    obtain ⟨c3, c4, c5, c6, c7, c8, c9, cc, A0⟩ := DV1 hT tx h0 h1 h2 h3 h4 h5
    rcases vin_cases (n := nv) (by omega) p0 with hb | ⟨i, hi, rfl⟩
    · have tg : [Γ x0, Γ va] = [1, 20] := by rw [tx, ea]
      refine ⟨1, _, _, by decide, K_X11_found0 l g x0 t0 va pa c3 c4 c5 c6 c7 c8 c9 sp nv np cc fA p0 p1 p2 p3 p4 hb, vaP_cons A0 (vaP_cons g9 vaP_nil), D_tags (tl := [1, 20]) tg (by decide) (by decide), fun x u H1 hp hP hz hk hT1 hun => ?_⟩
      obtain ⟨hx, rfl⟩ := hp
      have lt : ∀ {q t : Nat}, Γ q = t → t ≠ 0 → q < H.size := fun h h0 => hT.lt (by rw [h]; exact h0)
      obtain ⟨z7, e71, e72, e73, e74, e75, e76, pw, sa0, w0, w1⟩ := hRY.2
      have tz := PWX.tag hT tx w0
      have t40 := PWX.tag1 hT tz w1.1
      have t41 := PWX.tag2 hT tz w1.2.1
      cases FE_fun w0 (FE_at (k := 4) A0 rfl (by decide) rfl)
      have hY : RYK g x0 H1 := ⟨hRY.1.keep hT tx hun rfl, PWX.same (FE_at (k := 4) (hP 0 _ rfl) rfl (by decide) rfl) w1 (hk _ (lt tz (by decide)) (nin_tag (tl := [1, 20]) tg tz rfl (lt tz (by decide)))) (hk _ (lt t40 (by decide)) (nin_tag (tl := [1, 20]) tg t40 rfl (lt t40 (by decide)))) (hk _ (lt t41 (by decide)) (nin_tag (tl := [1, 20]) tg t41 rfl (lt t41 (by decide))))⟩
      exact hY
    · obtain ⟨ok, v, hv, hV⟩ := g10 i hi
      have tv := RCV.tag hT tx g1 g9 (by omega) hv
      obtain ⟨s1, s2, s3, s4, s5, s6, s7, s8, s9, s10, s11⟩ := hV.tags hT tv
      obtain ⟨gl, v15, hP0⟩ := hV
      obtain ⟨z7, ze1, ze2, ze3, ze4, ze5, ze6, pw, sa0, w0, w1, w2, w3, w4, w5, w6, wA, wS, wP, wT, w34, w56⟩ := hRY.2
      cases FE_fun w0 (FE_at (k := 4) A0 rfl (by decide) rfl)
      have tz := PWX.tag hT tx w0
      obtain ⟨zr, zc, ye1, ye2, ye3, ye4, ye5, ye6, zp, zd, zt, zm, zi0, zi1, zi2, zi3, zi4, AZ, tr7, t39, t40, t41, t42, t42b, t43, t43b⟩ := DV7b hT tz
      cases FE_fun w1 (FE_at (k := 6) AZ rfl (by decide) rfl)
      cases FE_fun w2 (FE_at (k := 7) AZ rfl (by decide) rfl)
      cases FE_fun w3 (FE_at (k := 8) AZ rfl (by decide) rfl)
      cases FE_fun w4 (FE_at (k := 9) AZ rfl (by decide) rfl)
      cases FE_fun w5 (FE_at (k := 10) AZ rfl (by decide) rfl)
      cases FE_fun w6 (FE_at (k := 11) AZ rfl (by decide) rfl)
      obtain ⟨qo, qh, rc, rp, fS, fO, fM, fC, AR, t44, t45, t46, t47, B44, B45, B46, B47, hRI⟩ := DV5r hT tr7
      obtain ⟨cA, B39⟩ := ints_of hT t39 (by decide) rfl
      obtain ⟨ct, B42⟩ := ints_of hT t42 (by decide) rfl
      obtain ⟨gd, B42b⟩ := ints_of hT t42b (by decide) rfl
      obtain ⟨nw, B43⟩ := ints_of hT t43 (by decide) rfl
      obtain ⟨nx, B43b⟩ := ints_of hT t43b (by decide) rfl
      have hpw : ∀ j : Nat, j < 128 → pw j = nI (tN (pw j)) ∧ tN (pw j) ≤ 1093 := row_nn hT t40 wA rfl (by omega)
      refine ⟨15, _, _, by decide, K_X11_found1 l g x0 t0 va pa c3 c4 c5 c6 c7 c8 c9 sp nv np cc fA i zr zc ze1 ze2 ze3 ze4 ze5 ze6 zp zd zt zm zi0 zi1 zi2 zi3 zi4 cA pw sa0 ct gd nw nx (zr + 1) qo (zr + 3) qh fS fO fM fC rc rp v (v + 1) (v + 2) (v + 3) (v + 4) (v + 5) (v + 6) (v + 7) (v + 8) (v + 9) (v + 10) (v + 11) v15 (V i).p (nI (V i).lc) (V i).de gl (V i).kn (V i).mu (V i).mn (kx (V i)) p1 p2 p3 p4 hi hnv hv ok.1 hpw hRI, vaP_cons A0 (vaP_cons g9 (vaP_cons AZ (vaP_cons B39 (vaP_cons wA (vaP_cons wS (vaP_cons B42 (vaP_cons B42b (vaP_cons B43 (vaP_cons B43b (vaP_cons AR (vaP_cons B44 (vaP_cons B45 (vaP_cons B46 (vaP_cons B47 (vaP_cons (hP0 0 _ rfl) (vaP_cons (hP0 1 _ rfl) (vaP_cons (hP0 2 _ rfl) (vaP_cons (hP0 3 _ rfl) (vaP_cons (hP0 8 _ rfl) vaP_nil))))))))))))))))))), D_keys (K := fun u => (if u = ze4 then 1001 else if u = ze6 then 1002 else if u = (v + 2) then 1003 else if u = (v + 3) then 1004 else Γ u)) (tl := [1, 20, 6, 39, 40, 41, 42, 1001, 43, 1002, 7, 44, 45, 46, 47, 3, 23, 1003, 1004, 26]) (by
        show [(if x0 = ze4 then 1001 else if x0 = ze6 then 1002 else if x0 = (v + 2) then 1003 else if x0 = (v + 3) then 1004 else Γ x0), (if va = ze4 then 1001 else if va = ze6 then 1002 else if va = (v + 2) then 1003 else if va = (v + 3) then 1004 else Γ va), (if c4 = ze4 then 1001 else if c4 = ze6 then 1002 else if c4 = (v + 2) then 1003 else if c4 = (v + 3) then 1004 else Γ c4), (if zc = ze4 then 1001 else if zc = ze6 then 1002 else if zc = (v + 2) then 1003 else if zc = (v + 3) then 1004 else Γ zc), (if ze1 = ze4 then 1001 else if ze1 = ze6 then 1002 else if ze1 = (v + 2) then 1003 else if ze1 = (v + 3) then 1004 else Γ ze1), (if ze2 = ze4 then 1001 else if ze2 = ze6 then 1002 else if ze2 = (v + 2) then 1003 else if ze2 = (v + 3) then 1004 else Γ ze2), (if ze3 = ze4 then 1001 else if ze3 = ze6 then 1002 else if ze3 = (v + 2) then 1003 else if ze3 = (v + 3) then 1004 else Γ ze3), (if ze4 = ze4 then 1001 else if ze4 = ze6 then 1002 else if ze4 = (v + 2) then 1003 else if ze4 = (v + 3) then 1004 else Γ ze4), (if ze5 = ze4 then 1001 else if ze5 = ze6 then 1002 else if ze5 = (v + 2) then 1003 else if ze5 = (v + 3) then 1004 else Γ ze5), (if ze6 = ze4 then 1001 else if ze6 = ze6 then 1002 else if ze6 = (v + 2) then 1003 else if ze6 = (v + 3) then 1004 else Γ ze6), (if zr = ze4 then 1001 else if zr = ze6 then 1002 else if zr = (v + 2) then 1003 else if zr = (v + 3) then 1004 else Γ zr), (if (zr + 1) = ze4 then 1001 else if (zr + 1) = ze6 then 1002 else if (zr + 1) = (v + 2) then 1003 else if (zr + 1) = (v + 3) then 1004 else Γ (zr + 1)), (if qo = ze4 then 1001 else if qo = ze6 then 1002 else if qo = (v + 2) then 1003 else if qo = (v + 3) then 1004 else Γ qo), (if (zr + 3) = ze4 then 1001 else if (zr + 3) = ze6 then 1002 else if (zr + 3) = (v + 2) then 1003 else if (zr + 3) = (v + 3) then 1004 else Γ (zr + 3)), (if qh = ze4 then 1001 else if qh = ze6 then 1002 else if qh = (v + 2) then 1003 else if qh = (v + 3) then 1004 else Γ qh), (if v = ze4 then 1001 else if v = ze6 then 1002 else if v = (v + 2) then 1003 else if v = (v + 3) then 1004 else Γ v), (if (v + 1) = ze4 then 1001 else if (v + 1) = ze6 then 1002 else if (v + 1) = (v + 2) then 1003 else if (v + 1) = (v + 3) then 1004 else Γ (v + 1)), (if (v + 2) = ze4 then 1001 else if (v + 2) = ze6 then 1002 else if (v + 2) = (v + 2) then 1003 else if (v + 2) = (v + 3) then 1004 else Γ (v + 2)), (if (v + 3) = ze4 then 1001 else if (v + 3) = ze6 then 1002 else if (v + 3) = (v + 2) then 1003 else if (v + 3) = (v + 3) then 1004 else Γ (v + 3)), (if (v + 8) = ze4 then 1001 else if (v + 8) = ze6 then 1002 else if (v + 8) = (v + 2) then 1003 else if (v + 8) = (v + 3) then 1004 else Γ (v + 8))] = _
        rw [(show (if x0 = ze4 then 1001 else if x0 = ze6 then 1002 else if x0 = (v + 2) then 1003 else if x0 = (v + 3) then 1004 else Γ x0) = 1 by rw [if_neg (nt_ne tx t42b (by decide)), if_neg (nt_ne tx t43b (by decide)), if_neg (nt_ne tx s2 (by decide)), if_neg (nt_ne tx s3 (by decide)), tx]), (show (if va = ze4 then 1001 else if va = ze6 then 1002 else if va = (v + 2) then 1003 else if va = (v + 3) then 1004 else Γ va) = 20 by rw [if_neg (nt_ne ea t42b (by decide)), if_neg (nt_ne ea t43b (by decide)), if_neg (nt_ne ea s2 (by decide)), if_neg (nt_ne ea s3 (by decide)), ea]), (show (if c4 = ze4 then 1001 else if c4 = ze6 then 1002 else if c4 = (v + 2) then 1003 else if c4 = (v + 3) then 1004 else Γ c4) = 6 by rw [if_neg (nt_ne tz t42b (by decide)), if_neg (nt_ne tz t43b (by decide)), if_neg (nt_ne tz s2 (by decide)), if_neg (nt_ne tz s3 (by decide)), tz]), (show (if zc = ze4 then 1001 else if zc = ze6 then 1002 else if zc = (v + 2) then 1003 else if zc = (v + 3) then 1004 else Γ zc) = 39 by rw [if_neg (nt_ne t39 t42b (by decide)), if_neg (nt_ne t39 t43b (by decide)), if_neg (nt_ne t39 s2 (by decide)), if_neg (nt_ne t39 s3 (by decide)), t39]), (show (if ze1 = ze4 then 1001 else if ze1 = ze6 then 1002 else if ze1 = (v + 2) then 1003 else if ze1 = (v + 3) then 1004 else Γ ze1) = 40 by rw [if_neg (nt_ne t40 t42b (by decide)), if_neg (nt_ne t40 t43b (by decide)), if_neg (nt_ne t40 s2 (by decide)), if_neg (nt_ne t40 s3 (by decide)), t40]), (show (if ze2 = ze4 then 1001 else if ze2 = ze6 then 1002 else if ze2 = (v + 2) then 1003 else if ze2 = (v + 3) then 1004 else Γ ze2) = 41 by rw [if_neg (nt_ne t41 t42b (by decide)), if_neg (nt_ne t41 t43b (by decide)), if_neg (nt_ne t41 s2 (by decide)), if_neg (nt_ne t41 s3 (by decide)), t41]), (show (if ze3 = ze4 then 1001 else if ze3 = ze6 then 1002 else if ze3 = (v + 2) then 1003 else if ze3 = (v + 3) then 1004 else Γ ze3) = 42 by rw [if_neg (w34), if_neg (nt_ne t42 t43b (by decide)), if_neg (nt_ne t42 s2 (by decide)), if_neg (nt_ne t42 s3 (by decide)), t42]), (show (if ze4 = ze4 then 1001 else if ze4 = ze6 then 1002 else if ze4 = (v + 2) then 1003 else if ze4 = (v + 3) then 1004 else Γ ze4) = 1001 by rw [if_pos rfl]), (show (if ze5 = ze4 then 1001 else if ze5 = ze6 then 1002 else if ze5 = (v + 2) then 1003 else if ze5 = (v + 3) then 1004 else Γ ze5) = 43 by rw [if_neg (nt_ne t43 t42b (by decide)), if_neg (w56), if_neg (nt_ne t43 s2 (by decide)), if_neg (nt_ne t43 s3 (by decide)), t43]), (show (if ze6 = ze4 then 1001 else if ze6 = ze6 then 1002 else if ze6 = (v + 2) then 1003 else if ze6 = (v + 3) then 1004 else Γ ze6) = 1002 by rw [if_neg (nt_ne t43b t42b (by decide)), if_pos rfl]), (show (if zr = ze4 then 1001 else if zr = ze6 then 1002 else if zr = (v + 2) then 1003 else if zr = (v + 3) then 1004 else Γ zr) = 7 by rw [if_neg (nt_ne tr7 t42b (by decide)), if_neg (nt_ne tr7 t43b (by decide)), if_neg (nt_ne tr7 s2 (by decide)), if_neg (nt_ne tr7 s3 (by decide)), tr7]), (show (if (zr + 1) = ze4 then 1001 else if (zr + 1) = ze6 then 1002 else if (zr + 1) = (v + 2) then 1003 else if (zr + 1) = (v + 3) then 1004 else Γ (zr + 1)) = 44 by rw [if_neg (nt_ne t44 t42b (by decide)), if_neg (nt_ne t44 t43b (by decide)), if_neg (nt_ne t44 s2 (by decide)), if_neg (nt_ne t44 s3 (by decide)), t44]), (show (if qo = ze4 then 1001 else if qo = ze6 then 1002 else if qo = (v + 2) then 1003 else if qo = (v + 3) then 1004 else Γ qo) = 45 by rw [if_neg (nt_ne t45 t42b (by decide)), if_neg (nt_ne t45 t43b (by decide)), if_neg (nt_ne t45 s2 (by decide)), if_neg (nt_ne t45 s3 (by decide)), t45]), (show (if (zr + 3) = ze4 then 1001 else if (zr + 3) = ze6 then 1002 else if (zr + 3) = (v + 2) then 1003 else if (zr + 3) = (v + 3) then 1004 else Γ (zr + 3)) = 46 by rw [if_neg (nt_ne t46 t42b (by decide)), if_neg (nt_ne t46 t43b (by decide)), if_neg (nt_ne t46 s2 (by decide)), if_neg (nt_ne t46 s3 (by decide)), t46]), (show (if qh = ze4 then 1001 else if qh = ze6 then 1002 else if qh = (v + 2) then 1003 else if qh = (v + 3) then 1004 else Γ qh) = 47 by rw [if_neg (nt_ne t47 t42b (by decide)), if_neg (nt_ne t47 t43b (by decide)), if_neg (nt_ne t47 s2 (by decide)), if_neg (nt_ne t47 s3 (by decide)), t47]), (show (if v = ze4 then 1001 else if v = ze6 then 1002 else if v = (v + 2) then 1003 else if v = (v + 3) then 1004 else Γ v) = 3 by rw [if_neg (nt_ne tv t42b (by decide)), if_neg (nt_ne tv t43b (by decide)), if_neg (nt_ne tv s2 (by decide)), if_neg (nt_ne tv s3 (by decide)), tv]), (show (if (v + 1) = ze4 then 1001 else if (v + 1) = ze6 then 1002 else if (v + 1) = (v + 2) then 1003 else if (v + 1) = (v + 3) then 1004 else Γ (v + 1)) = 23 by rw [if_neg (nt_ne s1 t42b (by decide)), if_neg (nt_ne s1 t43b (by decide)), if_neg (by omega), if_neg (by omega), s1]), (show (if (v + 2) = ze4 then 1001 else if (v + 2) = ze6 then 1002 else if (v + 2) = (v + 2) then 1003 else if (v + 2) = (v + 3) then 1004 else Γ (v + 2)) = 1003 by rw [if_neg (nt_ne s2 t42b (by decide)), if_neg (nt_ne s2 t43b (by decide)), if_pos rfl]), (show (if (v + 3) = ze4 then 1001 else if (v + 3) = ze6 then 1002 else if (v + 3) = (v + 2) then 1003 else if (v + 3) = (v + 3) then 1004 else Γ (v + 3)) = 1004 by rw [if_neg (nt_ne s3 t42b (by decide)), if_neg (nt_ne s3 t43b (by decide)), if_neg (by omega), if_pos rfl]), (show (if (v + 8) = ze4 then 1001 else if (v + 8) = ze6 then 1002 else if (v + 8) = (v + 2) then 1003 else if (v + 8) = (v + 3) then 1004 else Γ (v + 8)) = 26 by rw [if_neg (nt_ne s8 t42b (by decide)), if_neg (nt_ne s8 t43b (by decide)), if_neg (nt_ne s8 s2 (by decide)), if_neg (nt_ne s8 s3 (by decide)), s8])]) (by decide) (by
        intro k w hw
        match k, hw with
        | 0, hw => cases hw; show Γ x0 ≠ 0; rw [tx]; decide
        | 1, hw => cases hw; show Γ va ≠ 0; rw [ea]; decide
        | 2, hw => cases hw; show Γ c4 ≠ 0; rw [tz]; decide
        | 3, hw => cases hw; show Γ zc ≠ 0; rw [t39]; decide
        | 4, hw => cases hw; show Γ ze1 ≠ 0; rw [t40]; decide
        | 5, hw => cases hw; show Γ ze2 ≠ 0; rw [t41]; decide
        | 6, hw => cases hw; show Γ ze3 ≠ 0; rw [t42]; decide
        | 7, hw => cases hw; show Γ ze4 ≠ 0; rw [t42b]; decide
        | 8, hw => cases hw; show Γ ze5 ≠ 0; rw [t43]; decide
        | 9, hw => cases hw; show Γ ze6 ≠ 0; rw [t43b]; decide
        | 10, hw => cases hw; show Γ zr ≠ 0; rw [tr7]; decide
        | 11, hw => cases hw; show Γ (zr + 1) ≠ 0; rw [t44]; decide
        | 12, hw => cases hw; show Γ qo ≠ 0; rw [t45]; decide
        | 13, hw => cases hw; show Γ (zr + 3) ≠ 0; rw [t46]; decide
        | 14, hw => cases hw; show Γ qh ≠ 0; rw [t47]; decide
        | 15, hw => cases hw; show Γ v ≠ 0; rw [tv]; decide
        | 16, hw => cases hw; show Γ (v + 1) ≠ 0; rw [s1]; decide
        | 17, hw => cases hw; show Γ (v + 2) ≠ 0; rw [s2]; decide
        | 18, hw => cases hw; show Γ (v + 3) ≠ 0; rw [s3]; decide
        | 19, hw => cases hw; show Γ (v + 8) ≠ 0; rw [s8]; decide
        | k + 20, hw => cases hw), fun x u H1 hp hP hz hk hT1 hun => ?_⟩
      obtain ⟨hx, rfl⟩ := hp
      have hY : RYK g x0 H1 := ⟨hRY.1.keep hT tx hun rfl, c4, ze1, ze2, ze3, ze4, _, _, pw, sa0, FE_at (k := 4) (hP 0 _ rfl) rfl (by decide) rfl, FE_at (k := 6) (hP 2 _ rfl) rfl (by decide) rfl, FE_at (k := 7) (hP 2 _ rfl) rfl (by decide) rfl, FE_at (k := 8) (hP 2 _ rfl) rfl (by decide) rfl, FE_at (k := 9) (hP 2 _ rfl) rfl (by decide) rfl, FE_at (k := 10) (hP 2 _ rfl) rfl (by decide) rfl, FE_at (k := 11) (hP 2 _ rfl) rfl (by decide) rfl, hP 4 _ rfl, va_at.kept wS (hun.arr t41 (by decide) rfl (mdn_at (l := [(41, 0)]) rfl (by decide))), wP, wT, w34, PQ.ne w56 (fd_pq ok.1 hRI)⟩
      exact hY

set_option maxHeartbeats 8000000 in
theorem E11_addedJ {l : Launch} {g : GG} {Γ : Nat → Nat} {x0 n nv np : Nat} {fb : Nat → Int32} {V : Nat → VV} (hU : UQ TS0 Γ) (hnv : nv ≤ 10) (tx : Γ x0 = 1) (p0 : Int32) (p1 : Int32) (p2 : Int32) : EX l g yX11_added cX11_added 5 (some .int) pX11_added_0 Γ [.ref x0, .int p0, .int p1, .int p2] (fun H => RC1 g x0 n fb nv np H ∧ RCV g x0 nv V H ∧ RYK g x0 H) (fun _ v H1 => RYK g x0 H1) :=
  EX_of (SX11_added_0 l g) hU ⟨av_ref tx (by decide), avi_top _, avi_top _, avi_top _, trivial⟩ rfl fun H hT hR => by
    obtain ⟨hC, hD, hRY⟩ := hR
    have hR := And.intro hC hD
    obtain ⟨hR, va, fA, sp, g1, g9, g10, g14, g15, g16, g17⟩ := hR
    obtain ⟨t0, tq, va', pa, sp', fA', fB, ⟨e0, eq, ea, ep, es⟩, h0, h1, h2, h3, h4, h5, h6, h7, h8, -, -, -, -, h13⟩ := hR.tags hT tx
    cases FE_fun g1 h1
    cases FE_fun g15 h3
    obtain ⟨c3, c4, c5, c6, c7, c8, c9, cc, A0⟩ := DV1 hT tx h0 h1 h2 h3 h4 h5
    rcases vin_cases (n := nv) (by omega) p0 with hb | ⟨i, hi, rfl⟩
    · have tg : [Γ x0, Γ va] = [1, 20] := by rw [tx, ea]
      refine ⟨1, _, _, by decide, K_X11_added0 l g x0 t0 va pa c3 c4 c5 c6 c7 c8 c9 sp nv np cc fA p0 p1 p2 hb, vaP_cons A0 (vaP_cons g9 vaP_nil), D_tags (tl := [1, 20]) tg (by decide) (by decide), fun x u H1 hp hP hz hk hT1 hun => ?_⟩
      obtain ⟨hx, rfl⟩ := hp
      have lt : ∀ {q t : Nat}, Γ q = t → t ≠ 0 → q < H.size := fun h h0 => hT.lt (by rw [h]; exact h0)
      obtain ⟨z7, e71, e72, e73, e74, e75, e76, pw, sa0, w0, w1⟩ := hRY.2
      have tz := PWX.tag hT tx w0
      have t40 := PWX.tag1 hT tz w1.1
      have t41 := PWX.tag2 hT tz w1.2.1
      cases FE_fun w0 (FE_at (k := 4) A0 rfl (by decide) rfl)
      have hY : RYK g x0 H1 := ⟨hRY.1.keep hT tx hun rfl, PWX.same (FE_at (k := 4) (hP 0 _ rfl) rfl (by decide) rfl) w1 (hk _ (lt tz (by decide)) (nin_tag (tl := [1, 20]) tg tz rfl (lt tz (by decide)))) (hk _ (lt t40 (by decide)) (nin_tag (tl := [1, 20]) tg t40 rfl (lt t40 (by decide)))) (hk _ (lt t41 (by decide)) (nin_tag (tl := [1, 20]) tg t41 rfl (lt t41 (by decide))))⟩
      exact hY
    · obtain ⟨ok, v, hv, hV⟩ := g10 i hi
      have tv := RCV.tag hT tx g1 g9 (by omega) hv
      obtain ⟨s1, s2, s3, s4, s5, s6, s7, s8, s9, s10, s11⟩ := hV.tags hT tv
      obtain ⟨gl, v15, hP0⟩ := hV
      obtain ⟨z7, ze1, ze2, ze3, ze4, ze5, ze6, pw, sa0, w0, w1, w2, w3, w4, w5, w6, wA, wS, wP, wT, w34, w56⟩ := hRY.2
      cases FE_fun w0 (FE_at (k := 4) A0 rfl (by decide) rfl)
      have tz := PWX.tag hT tx w0
      obtain ⟨zr, zc, ye1, ye2, ye3, ye4, ye5, ye6, zp, zd, zt, zm, zi0, zi1, zi2, zi3, zi4, AZ, tr7, t39, t40, t41, t42, t42b, t43, t43b⟩ := DV7b hT tz
      cases FE_fun w1 (FE_at (k := 6) AZ rfl (by decide) rfl)
      cases FE_fun w2 (FE_at (k := 7) AZ rfl (by decide) rfl)
      cases FE_fun w3 (FE_at (k := 8) AZ rfl (by decide) rfl)
      cases FE_fun w4 (FE_at (k := 9) AZ rfl (by decide) rfl)
      cases FE_fun w5 (FE_at (k := 10) AZ rfl (by decide) rfl)
      cases FE_fun w6 (FE_at (k := 11) AZ rfl (by decide) rfl)
      obtain ⟨qo, qh, rc, rp, fS, fO, fM, fC, AR, t44, t45, t46, t47, B44, B45, B46, B47, hRI⟩ := DV5r hT tr7
      obtain ⟨cA, B39⟩ := ints_of hT t39 (by decide) rfl
      obtain ⟨ct, B42⟩ := ints_of hT t42 (by decide) rfl
      obtain ⟨gd, B42b⟩ := ints_of hT t42b (by decide) rfl
      obtain ⟨nw, B43⟩ := ints_of hT t43 (by decide) rfl
      obtain ⟨nx, B43b⟩ := ints_of hT t43b (by decide) rfl
      have hpw : ∀ j : Nat, j < 128 → pw j = nI (tN (pw j)) ∧ tN (pw j) ≤ 1093 := row_nn hT t40 wA rfl (by omega)
      refine ⟨15, _, _, by decide, K_X11_added1 l g x0 t0 va pa c3 c4 c5 c6 c7 c8 c9 sp nv np cc fA i zr zc ze1 ze2 ze3 ze4 ze5 ze6 zp zd zt zm zi0 zi1 zi2 zi3 zi4 cA pw ct nw nx (zr + 1) qo (zr + 3) qh fS fO fM fC rc rp v (v + 1) (v + 2) (v + 3) (v + 4) (v + 5) (v + 6) (v + 7) (v + 8) (v + 9) (v + 10) (v + 11) v15 (V i).p (V i).lc (V i).de gl (V i).kn (V i).mu (V i).mn (kx (V i)) (V i).L p1 p2 hi hnv hv ok.1 hpw hRI ok.2.1, vaP_cons A0 (vaP_cons g9 (vaP_cons AZ (vaP_cons B39 (vaP_cons wA (vaP_cons B42 (vaP_cons B43 (vaP_cons B43b (vaP_cons AR (vaP_cons B44 (vaP_cons B45 (vaP_cons B46 (vaP_cons B47 (vaP_cons (hP0 0 _ rfl) (vaP_cons (hP0 1 _ rfl) (vaP_cons (hP0 2 _ rfl) (vaP_cons (hP0 3 _ rfl) (vaP_cons (hP0 8 _ rfl) (vaP_cons (hP0 7 _ rfl) vaP_nil)))))))))))))))))), D_keys (K := fun u => (if u = ze6 then 1001 else if u = (v + 2) then 1002 else if u = (v + 3) then 1003 else Γ u)) (tl := [1, 20, 6, 39, 40, 42, 43, 1001, 7, 44, 45, 46, 47, 3, 23, 1002, 1003, 26, 25]) (by
        show [(if x0 = ze6 then 1001 else if x0 = (v + 2) then 1002 else if x0 = (v + 3) then 1003 else Γ x0), (if va = ze6 then 1001 else if va = (v + 2) then 1002 else if va = (v + 3) then 1003 else Γ va), (if c4 = ze6 then 1001 else if c4 = (v + 2) then 1002 else if c4 = (v + 3) then 1003 else Γ c4), (if zc = ze6 then 1001 else if zc = (v + 2) then 1002 else if zc = (v + 3) then 1003 else Γ zc), (if ze1 = ze6 then 1001 else if ze1 = (v + 2) then 1002 else if ze1 = (v + 3) then 1003 else Γ ze1), (if ze3 = ze6 then 1001 else if ze3 = (v + 2) then 1002 else if ze3 = (v + 3) then 1003 else Γ ze3), (if ze5 = ze6 then 1001 else if ze5 = (v + 2) then 1002 else if ze5 = (v + 3) then 1003 else Γ ze5), (if ze6 = ze6 then 1001 else if ze6 = (v + 2) then 1002 else if ze6 = (v + 3) then 1003 else Γ ze6), (if zr = ze6 then 1001 else if zr = (v + 2) then 1002 else if zr = (v + 3) then 1003 else Γ zr), (if (zr + 1) = ze6 then 1001 else if (zr + 1) = (v + 2) then 1002 else if (zr + 1) = (v + 3) then 1003 else Γ (zr + 1)), (if qo = ze6 then 1001 else if qo = (v + 2) then 1002 else if qo = (v + 3) then 1003 else Γ qo), (if (zr + 3) = ze6 then 1001 else if (zr + 3) = (v + 2) then 1002 else if (zr + 3) = (v + 3) then 1003 else Γ (zr + 3)), (if qh = ze6 then 1001 else if qh = (v + 2) then 1002 else if qh = (v + 3) then 1003 else Γ qh), (if v = ze6 then 1001 else if v = (v + 2) then 1002 else if v = (v + 3) then 1003 else Γ v), (if (v + 1) = ze6 then 1001 else if (v + 1) = (v + 2) then 1002 else if (v + 1) = (v + 3) then 1003 else Γ (v + 1)), (if (v + 2) = ze6 then 1001 else if (v + 2) = (v + 2) then 1002 else if (v + 2) = (v + 3) then 1003 else Γ (v + 2)), (if (v + 3) = ze6 then 1001 else if (v + 3) = (v + 2) then 1002 else if (v + 3) = (v + 3) then 1003 else Γ (v + 3)), (if (v + 8) = ze6 then 1001 else if (v + 8) = (v + 2) then 1002 else if (v + 8) = (v + 3) then 1003 else Γ (v + 8)), (if (v + 7) = ze6 then 1001 else if (v + 7) = (v + 2) then 1002 else if (v + 7) = (v + 3) then 1003 else Γ (v + 7))] = _
        rw [(show (if x0 = ze6 then 1001 else if x0 = (v + 2) then 1002 else if x0 = (v + 3) then 1003 else Γ x0) = 1 by rw [if_neg (nt_ne tx t43b (by decide)), if_neg (nt_ne tx s2 (by decide)), if_neg (nt_ne tx s3 (by decide)), tx]), (show (if va = ze6 then 1001 else if va = (v + 2) then 1002 else if va = (v + 3) then 1003 else Γ va) = 20 by rw [if_neg (nt_ne ea t43b (by decide)), if_neg (nt_ne ea s2 (by decide)), if_neg (nt_ne ea s3 (by decide)), ea]), (show (if c4 = ze6 then 1001 else if c4 = (v + 2) then 1002 else if c4 = (v + 3) then 1003 else Γ c4) = 6 by rw [if_neg (nt_ne tz t43b (by decide)), if_neg (nt_ne tz s2 (by decide)), if_neg (nt_ne tz s3 (by decide)), tz]), (show (if zc = ze6 then 1001 else if zc = (v + 2) then 1002 else if zc = (v + 3) then 1003 else Γ zc) = 39 by rw [if_neg (nt_ne t39 t43b (by decide)), if_neg (nt_ne t39 s2 (by decide)), if_neg (nt_ne t39 s3 (by decide)), t39]), (show (if ze1 = ze6 then 1001 else if ze1 = (v + 2) then 1002 else if ze1 = (v + 3) then 1003 else Γ ze1) = 40 by rw [if_neg (nt_ne t40 t43b (by decide)), if_neg (nt_ne t40 s2 (by decide)), if_neg (nt_ne t40 s3 (by decide)), t40]), (show (if ze3 = ze6 then 1001 else if ze3 = (v + 2) then 1002 else if ze3 = (v + 3) then 1003 else Γ ze3) = 42 by rw [if_neg (nt_ne t42 t43b (by decide)), if_neg (nt_ne t42 s2 (by decide)), if_neg (nt_ne t42 s3 (by decide)), t42]), (show (if ze5 = ze6 then 1001 else if ze5 = (v + 2) then 1002 else if ze5 = (v + 3) then 1003 else Γ ze5) = 43 by rw [if_neg (w56), if_neg (nt_ne t43 s2 (by decide)), if_neg (nt_ne t43 s3 (by decide)), t43]), (show (if ze6 = ze6 then 1001 else if ze6 = (v + 2) then 1002 else if ze6 = (v + 3) then 1003 else Γ ze6) = 1001 by rw [if_pos rfl]), (show (if zr = ze6 then 1001 else if zr = (v + 2) then 1002 else if zr = (v + 3) then 1003 else Γ zr) = 7 by rw [if_neg (nt_ne tr7 t43b (by decide)), if_neg (nt_ne tr7 s2 (by decide)), if_neg (nt_ne tr7 s3 (by decide)), tr7]), (show (if (zr + 1) = ze6 then 1001 else if (zr + 1) = (v + 2) then 1002 else if (zr + 1) = (v + 3) then 1003 else Γ (zr + 1)) = 44 by rw [if_neg (nt_ne t44 t43b (by decide)), if_neg (nt_ne t44 s2 (by decide)), if_neg (nt_ne t44 s3 (by decide)), t44]), (show (if qo = ze6 then 1001 else if qo = (v + 2) then 1002 else if qo = (v + 3) then 1003 else Γ qo) = 45 by rw [if_neg (nt_ne t45 t43b (by decide)), if_neg (nt_ne t45 s2 (by decide)), if_neg (nt_ne t45 s3 (by decide)), t45]), (show (if (zr + 3) = ze6 then 1001 else if (zr + 3) = (v + 2) then 1002 else if (zr + 3) = (v + 3) then 1003 else Γ (zr + 3)) = 46 by rw [if_neg (nt_ne t46 t43b (by decide)), if_neg (nt_ne t46 s2 (by decide)), if_neg (nt_ne t46 s3 (by decide)), t46]), (show (if qh = ze6 then 1001 else if qh = (v + 2) then 1002 else if qh = (v + 3) then 1003 else Γ qh) = 47 by rw [if_neg (nt_ne t47 t43b (by decide)), if_neg (nt_ne t47 s2 (by decide)), if_neg (nt_ne t47 s3 (by decide)), t47]), (show (if v = ze6 then 1001 else if v = (v + 2) then 1002 else if v = (v + 3) then 1003 else Γ v) = 3 by rw [if_neg (nt_ne tv t43b (by decide)), if_neg (nt_ne tv s2 (by decide)), if_neg (nt_ne tv s3 (by decide)), tv]), (show (if (v + 1) = ze6 then 1001 else if (v + 1) = (v + 2) then 1002 else if (v + 1) = (v + 3) then 1003 else Γ (v + 1)) = 23 by rw [if_neg (nt_ne s1 t43b (by decide)), if_neg (by omega), if_neg (by omega), s1]), (show (if (v + 2) = ze6 then 1001 else if (v + 2) = (v + 2) then 1002 else if (v + 2) = (v + 3) then 1003 else Γ (v + 2)) = 1002 by rw [if_neg (nt_ne s2 t43b (by decide)), if_pos rfl]), (show (if (v + 3) = ze6 then 1001 else if (v + 3) = (v + 2) then 1002 else if (v + 3) = (v + 3) then 1003 else Γ (v + 3)) = 1003 by rw [if_neg (nt_ne s3 t43b (by decide)), if_neg (by omega), if_pos rfl]), (show (if (v + 8) = ze6 then 1001 else if (v + 8) = (v + 2) then 1002 else if (v + 8) = (v + 3) then 1003 else Γ (v + 8)) = 26 by rw [if_neg (nt_ne s8 t43b (by decide)), if_neg (nt_ne s8 s2 (by decide)), if_neg (nt_ne s8 s3 (by decide)), s8]), (show (if (v + 7) = ze6 then 1001 else if (v + 7) = (v + 2) then 1002 else if (v + 7) = (v + 3) then 1003 else Γ (v + 7)) = 25 by rw [if_neg (nt_ne s7 t43b (by decide)), if_neg (nt_ne s7 s2 (by decide)), if_neg (nt_ne s7 s3 (by decide)), s7])]) (by decide) (by
        intro k w hw
        match k, hw with
        | 0, hw => cases hw; show Γ x0 ≠ 0; rw [tx]; decide
        | 1, hw => cases hw; show Γ va ≠ 0; rw [ea]; decide
        | 2, hw => cases hw; show Γ c4 ≠ 0; rw [tz]; decide
        | 3, hw => cases hw; show Γ zc ≠ 0; rw [t39]; decide
        | 4, hw => cases hw; show Γ ze1 ≠ 0; rw [t40]; decide
        | 5, hw => cases hw; show Γ ze3 ≠ 0; rw [t42]; decide
        | 6, hw => cases hw; show Γ ze5 ≠ 0; rw [t43]; decide
        | 7, hw => cases hw; show Γ ze6 ≠ 0; rw [t43b]; decide
        | 8, hw => cases hw; show Γ zr ≠ 0; rw [tr7]; decide
        | 9, hw => cases hw; show Γ (zr + 1) ≠ 0; rw [t44]; decide
        | 10, hw => cases hw; show Γ qo ≠ 0; rw [t45]; decide
        | 11, hw => cases hw; show Γ (zr + 3) ≠ 0; rw [t46]; decide
        | 12, hw => cases hw; show Γ qh ≠ 0; rw [t47]; decide
        | 13, hw => cases hw; show Γ v ≠ 0; rw [tv]; decide
        | 14, hw => cases hw; show Γ (v + 1) ≠ 0; rw [s1]; decide
        | 15, hw => cases hw; show Γ (v + 2) ≠ 0; rw [s2]; decide
        | 16, hw => cases hw; show Γ (v + 3) ≠ 0; rw [s3]; decide
        | 17, hw => cases hw; show Γ (v + 8) ≠ 0; rw [s8]; decide
        | 18, hw => cases hw; show Γ (v + 7) ≠ 0; rw [s7]; decide
        | k + 19, hw => cases hw), fun x u H1 hp hP hz hk hT1 hun => ?_⟩
      obtain ⟨hx, rfl⟩ := hp
      have hY : RYK g x0 H1 := ⟨hRY.1.keep hT tx hun rfl, c4, ze1, ze2, ze3, ze4, _, _, pw, sa0, FE_at (k := 4) (hP 0 _ rfl) rfl (by decide) rfl, FE_at (k := 6) (hP 2 _ rfl) rfl (by decide) rfl, FE_at (k := 7) (hP 2 _ rfl) rfl (by decide) rfl, FE_at (k := 8) (hP 2 _ rfl) rfl (by decide) rfl, FE_at (k := 9) (hP 2 _ rfl) rfl (by decide) rfl, FE_at (k := 10) (hP 2 _ rfl) rfl (by decide) rfl, FE_at (k := 11) (hP 2 _ rfl) rfl (by decide) rfl, hP 4 _ rfl, va_at.kept wS (hun.arr t41 (by decide) rfl (mdn_at (l := [(41, 0)]) rfl (by decide))), wP, wT, w34, PQ.ne w56 (ad_pq ok.1 hRI)⟩
      exact hY

theorem ta_24 {g : GG} {Γ : Nat → Nat} {H : Heap} {q : Nat} {f : Nat → Int32} (hT : HT g TS0 Γ H) (hq : Γ q = 29) (hA : AT g 1 28 q f H) : ∀ j : Nat, j < 28 → f j ≤ 24 := fun j hj => by
  obtain ⟨f', h1, h2⟩ := h_ints (Or.inr (Or.inl rfl)) hT (by rw [hq]; decide) ((congrArg TS0.1 hq).trans rfl)
  have h3 := (AT_fun hA h1 hj).2
  obtain ⟨x, e, -, h5⟩ := avi_int rfl (h2 j hj)
  rw [h3, Value.int.inj e]
  exact Int32.le_iff_toInt_le.mpr (by rw [show (24 : Int32).toInt = 24 from by decide]; exact h5)
theorem and_0r (x : Int32) : x &&& (0 : Int32) = 0 := b_ext fun i _ => by rw [b_and, b_0, Bool.and_false]
theorem s7_nI {k : Nat} (h : k < 128) : s7 (nI k) := by
  rw [← (by decide +kernel : ∀ k : Nat, k < 128 → nI k &&& (127 : Int32) = nI k) k h]
  exact s7_127
theorem kn_s7 {w : VV} (ok : VOK w) (hK : KNB w) {j : Nat} (hj : j < 4) : s7 (w.kn j) := fun i h7 hi => by
  cases e : bt (w.kn j) i with
  | false => rfl
  | true =>
    have h1 := hK j i hj hi e
    have h2 := ok.1
    omega
/-- what the class lays ahead for a news -/
abbrev cAw (w : VV) (nw : Nat) : Nat → Int32 := L1_X7_prepare w.p w.mn (kx w) nw (fun _ => 0) 24
noncomputable def lsN (w : VV) (nw h : Nat) : Int32 := lsV (ZP w.p h w.de (TPw w nw) (cAw w nw) (F_X7_state (w.kn nw) 0) (w.mu nw)) (25 - h)
noncomputable def lsH (w : VV) (y z : Int32) : Int32 := if F_X11_isNews y = 0 then -1 else if F_X11_isHour z = 0 then -1 else lsN w (tN y) (tN z)
theorem pr_any {pe nw h a : Nat} {mn K cA cB : Nat → Int32} (hpe : pe ≤ 7) (h1 : 1 ≤ h) (h2 : h ≤ 24) (ha : a < pe) : L1_X7_prepare pe mn K nw cA 24 (h * 7 + a) = L1_X7_prepare pe mn K nw cB 24 (h * 7 + a) := by
  obtain ⟨j, rfl⟩ : ∃ j : Nat, h = j + 1 := ⟨h - 1, by omega⟩
  rw [prep_1 hpe 24 j a (by omega) ha, prep_1 hpe 24 j a (by omega) ha]
section
variable {p ho : Nat} {zd zt zm s0 : Int32} {cA cB : Nat → Int32}
theorem chX_cong {x : Int32} {h a : Nat} (e : cA (h * 7 + a) = cB (h * 7 + a)) : chX cA x h zt a = chX cB x h zt a := by
  unfold chX
  rw [e]
theorem zs_cong (h1 : 1 ≤ ho) (e : ∀ h a : Nat, 1 ≤ h → h ≤ 24 → a < p → cA (h * 7 + a) = cB (h * 7 + a)) : ∀ j : Nat, ho + j ≤ 25 → ∀ y : Int32, ZS p ho zd zt cA s0 j y → ZS p ho zd zt cB s0 j y
  | 0, _, _, h => h
  | j + 1, hj, y, h => by
    obtain ⟨x, hx, C, hC, q⟩ := h
    exact ⟨x, zs_cong h1 e j (by omega) x hx, C, hC.cong fun a ha => (chX_cong (e (ho + j) a (by omega) (by omega) ha)).symm, q⟩
theorem zp_cong (h1 : 1 ≤ ho) (e : ∀ h a : Nat, 1 ≤ h → h ≤ 24 → a < p → cA (h * 7 + a) = cB (h * 7 + a)) {n : Nat} (hn : ho + n ≤ 25) : ZP p ho zd zt cA s0 zm n ↔ ZP p ho zd zt cB s0 zm n :=
  ⟨fun ⟨y, hy, q⟩ => ⟨y, zs_cong h1 e n hn y hy, q⟩, fun ⟨y, hy, q⟩ => ⟨y, zs_cong h1 (fun h a a1 a2 a3 => (e h a a1 a2 a3).symm) n hn y hy, q⟩⟩
end
theorem gs_0 {k : Int32} (hk : s7 k) : GS (F_X7_state k 0) := ⟨k, 0, hk, s7_0, and_0r k, rfl⟩
theorem ls_cls {w : VV} {P Q : Nat} {zp zd zt zm zi0 zi1 y z rc rp : Int32} {cA pw ct nw nx fS fO fM fC : Nat → Int32} (ok : VOK w) (hK : KNB w) (hpt : PWT pw) (hI : RI fS fM rc) : (F_X11_least1 P Q zp zd zt zm zi0 zi1 cA pw ct nw nx fS fO fM fC rc rp w.p w.de w.kn w.mu w.mn (kx w) y z).1 = lsH w y z := by
  unfold F_X11_least1 lsH
  by_cases c1 : F_X11_isNews y = 0
  · rw [if_pos c1, if_pos c1]
  · rw [if_neg c1, if_neg c1]
    by_cases c2 : F_X11_isHour z = 0
    · rw [if_pos c2, if_pos c2]
    · rw [if_neg c2, if_neg c2]
      have y4 := (hn_at c1).2
      obtain ⟨-, z1, z2⟩ := hr_at c2
      have h := lh_val (P := P) (Q := Q) (zd := w.de) (zt := TPw w (tN y)) (zm := w.mu (tN y)) (cA := L1_X7_prepare w.p w.mn (kx w) (tN y) cA 24) (now := nw) (nx := nx) (O := fO) (C := fC) (rp := rp) hpt ok.1 (by omega) (kn_s7 ok hK y4) s7_0 (and_0r _) hI
      have h2 := h.iff (P2 := ZP w.p (tN z) w.de (TPw w (tN y)) (cAw w (tN y)) (F_X7_state (w.kn (tN y)) 0) (w.mu (tN y))) fun n hn => zp_cong z1 (fun h a a1 a2 a3 => pr_any ok.1 a1 a2 a3) (by omega)
      exact lsV_eq h2
theorem tp_bit {w : VV} {nw b : Nat} (ok : VOK w) (hb : b < 32) : bt (TPw w nw) b = true ↔ b < w.p ∧ bt (w.mn nw) b = false := by
  have hp := ok.1
  rw [b_and, b_nt _ hb, b_evy w.p (by omega) b hb, Bool.and_eq_true, decide_eq_true_eq]
  cases bt (w.mn nw) b <;> simp
theorem chh_of {F : Nat → Nat → Int32} {i nw : Nat} {w : VV} (ok : VOK w) (ow : OWB w) (hr : RP1 F i w) : CHH w.p (TPw w nw) (cAw w nw) (w.mn nw) (fun h a b => F_X12_mayCall (F 12) (F 13) (F 14) (F 15) (F 16) (F 17) w.lc i a b (nI h)) := fun h a c h1 h2 ha hc => by
  have hp := ok.1
  rw [show bt (cAw w nw (h * 7 + a)) c = true ↔ _ from prp_of (cA := fun _ => 0) (de := w.de) (mu := w.mu) (nw := nw) ok h a h1 h2 ha c (by omega), mc_agree (a := a) (b := c) ok ow hr (by omega) (by omega) h1 h2, tp_bit ok (by omega), tp_bit ok (by omega)]
  exact ⟨fun q => ⟨q.1.1.2, q.1.2.1, q.1.2.2.2⟩, fun q => ⟨⟨⟨ha, q.1⟩, q.2.1, hc, q.2.2⟩, hc, q.2.2⟩⟩
set_option maxHeartbeats 8000000 in
theorem E11_leastJ {l : Launch} {g : GG} {Γ : Nat → Nat} {x0 n nv np : Nat} {fb : Nat → Int32} {V : Nat → VV} (hU : UQ TS0 Γ) (hnv : nv ≤ 10) (hZ : ∀ i : Nat, i < nv → NLP (V i)) (tx : Γ x0 = 1) (p0 : Int32) (p1 : Int32) (p2 : Int32) : EX l g yX11_least cX11_least 5 (some .int) pX11_least_0 Γ [.ref x0, .int p0, .int p1, .int p2] (fun H => RC1 g x0 n fb nv np H ∧ RCV g x0 nv V H ∧ RYK g x0 H) (fun _ v H1 => v = .int (vAns nv V p0 (-1) (fun w => lsH w p1 p2)) ∧ RYK g x0 H1) :=
  EX_of (SX11_least_0 l g) hU ⟨av_ref tx (by decide), avi_top _, avi_top _, avi_top _, trivial⟩ rfl fun H hT hR => by
    obtain ⟨hC, hD, hRY⟩ := hR
    have hR := And.intro hC hD
    obtain ⟨hR, va, fA, sp, g1, g9, g10, g14, g15, g16, g17⟩ := hR
    obtain ⟨t0, tq, va', pa, sp', fA', fB, ⟨e0, eq, ea, ep, es⟩, h0, h1, h2, h3, h4, h5, h6, h7, h8, -, -, -, -, h13⟩ := hR.tags hT tx
    cases FE_fun g1 h1
    cases FE_fun g15 h3
    obtain ⟨c3, c4, c5, c6, c7, c8, c9, cc, A0⟩ := DV1 hT tx h0 h1 h2 h3 h4 h5
    rcases vin_cases (n := nv) (by omega) p0 with hb | ⟨i, hi, rfl⟩
    · have tg : [Γ x0, Γ va] = [1, 20] := by rw [tx, ea]
      refine ⟨1, _, _, by decide, K_X11_least0 l g x0 t0 va pa c3 c4 c5 c6 c7 c8 c9 sp nv np cc fA p0 p1 p2 hb, vaP_cons A0 (vaP_cons g9 vaP_nil), D_tags (tl := [1, 20]) tg (by decide) (by decide), fun x u H1 hp hP hz hk hT1 hun => ?_⟩
      obtain ⟨hx, rfl⟩ := hp
      have lt : ∀ {q t : Nat}, Γ q = t → t ≠ 0 → q < H.size := fun h h0 => hT.lt (by rw [h]; exact h0)
      obtain ⟨z7, e71, e72, e73, e74, e75, e76, pw, sa0, w0, w1⟩ := hRY.2
      have tz := PWX.tag hT tx w0
      have t40 := PWX.tag1 hT tz w1.1
      have t41 := PWX.tag2 hT tz w1.2.1
      cases FE_fun w0 (FE_at (k := 4) A0 rfl (by decide) rfl)
      have hY : RYK g x0 H1 := ⟨hRY.1.keep hT tx hun rfl, PWX.same (FE_at (k := 4) (hP 0 _ rfl) rfl (by decide) rfl) w1 (hk _ (lt tz (by decide)) (nin_tag (tl := [1, 20]) tg tz rfl (lt tz (by decide)))) (hk _ (lt t40 (by decide)) (nin_tag (tl := [1, 20]) tg t40 rfl (lt t40 (by decide)))) (hk _ (lt t41 (by decide)) (nin_tag (tl := [1, 20]) tg t41 rfl (lt t41 (by decide))))⟩
      exact ⟨by rw [hx, vAns_no hb]; rfl, hY⟩
    · obtain ⟨ok, v, hv, hV⟩ := g10 i hi
      have tv := RCV.tag hT tx g1 g9 (by omega) hv
      obtain ⟨s1, s2, s3, s4, s5, s6, s7, s8, s9, s10, s11⟩ := hV.tags hT tv
      obtain ⟨gl, v15, hP0⟩ := hV
      obtain ⟨z7, ze1, ze2, ze3, ze4, ze5, ze6, pw, sa0, w0, w1, w2, w3, w4, w5, w6, wA, wS, wP, wT, w34, w56⟩ := hRY.2
      cases FE_fun w0 (FE_at (k := 4) A0 rfl (by decide) rfl)
      have tz := PWX.tag hT tx w0
      obtain ⟨zr, zc, ye1, ye2, ye3, ye4, ye5, ye6, zp, zd, zt, zm, zi0, zi1, zi2, zi3, zi4, AZ, tr7, t39, t40, t41, t42, t42b, t43, t43b⟩ := DV7b hT tz
      cases FE_fun w1 (FE_at (k := 6) AZ rfl (by decide) rfl)
      cases FE_fun w2 (FE_at (k := 7) AZ rfl (by decide) rfl)
      cases FE_fun w3 (FE_at (k := 8) AZ rfl (by decide) rfl)
      cases FE_fun w4 (FE_at (k := 9) AZ rfl (by decide) rfl)
      cases FE_fun w5 (FE_at (k := 10) AZ rfl (by decide) rfl)
      cases FE_fun w6 (FE_at (k := 11) AZ rfl (by decide) rfl)
      obtain ⟨qo, qh, rc, rp, fS, fO, fM, fC, AR, t44, t45, t46, t47, B44, B45, B46, B47, hRI⟩ := DV5r hT tr7
      obtain ⟨cA, B39⟩ := ints_of hT t39 (by decide) rfl
      obtain ⟨ct, B42⟩ := ints_of hT t42 (by decide) rfl
      obtain ⟨gd, B42b⟩ := ints_of hT t42b (by decide) rfl
      obtain ⟨nw, B43⟩ := ints_of hT t43 (by decide) rfl
      obtain ⟨nx, B43b⟩ := ints_of hT t43b (by decide) rfl
      have hpw : ∀ j : Nat, j < 128 → pw j = nI (tN (pw j)) ∧ tN (pw j) ≤ 1093 := row_nn hT t40 wA rfl (by omega)
      refine ⟨13, _, _, by decide, K_X11_least1 l g x0 t0 va pa c3 c4 c5 c6 c7 c8 c9 sp nv np cc fA i zr zc ze1 ze2 ze3 ze4 ze5 ze6 zp zd zt zm zi0 zi1 zi2 zi3 zi4 cA pw ct nw nx (zr + 1) qo (zr + 3) qh fS fO fM fC rc rp v (v + 1) (v + 2) (v + 3) (v + 4) (v + 5) (v + 6) (v + 7) (v + 8) (v + 9) (v + 10) (v + 11) v15 (V i).p (nI (V i).lc) (V i).de gl (V i).kn (V i).mu (V i).mn (kx (V i)) p1 p2 hi hnv hv ok.1 hpw hRI, vaP_cons A0 (vaP_cons g9 (vaP_cons AZ (vaP_cons B39 (vaP_cons wA (vaP_cons B42 (vaP_cons B43 (vaP_cons B43b (vaP_cons AR (vaP_cons B44 (vaP_cons B45 (vaP_cons B46 (vaP_cons B47 (vaP_cons (hP0 0 _ rfl) (vaP_cons (hP0 1 _ rfl) (vaP_cons (hP0 2 _ rfl) (vaP_cons (hP0 3 _ rfl) (vaP_cons (hP0 8 _ rfl) vaP_nil))))))))))))))))), D_keys (K := fun u => (if u = ze6 then 1001 else if u = (v + 2) then 1002 else if u = (v + 3) then 1003 else Γ u)) (tl := [1, 20, 6, 39, 40, 42, 43, 1001, 7, 44, 45, 46, 47, 3, 23, 1002, 1003, 26]) (by
        show [(if x0 = ze6 then 1001 else if x0 = (v + 2) then 1002 else if x0 = (v + 3) then 1003 else Γ x0), (if va = ze6 then 1001 else if va = (v + 2) then 1002 else if va = (v + 3) then 1003 else Γ va), (if c4 = ze6 then 1001 else if c4 = (v + 2) then 1002 else if c4 = (v + 3) then 1003 else Γ c4), (if zc = ze6 then 1001 else if zc = (v + 2) then 1002 else if zc = (v + 3) then 1003 else Γ zc), (if ze1 = ze6 then 1001 else if ze1 = (v + 2) then 1002 else if ze1 = (v + 3) then 1003 else Γ ze1), (if ze3 = ze6 then 1001 else if ze3 = (v + 2) then 1002 else if ze3 = (v + 3) then 1003 else Γ ze3), (if ze5 = ze6 then 1001 else if ze5 = (v + 2) then 1002 else if ze5 = (v + 3) then 1003 else Γ ze5), (if ze6 = ze6 then 1001 else if ze6 = (v + 2) then 1002 else if ze6 = (v + 3) then 1003 else Γ ze6), (if zr = ze6 then 1001 else if zr = (v + 2) then 1002 else if zr = (v + 3) then 1003 else Γ zr), (if (zr + 1) = ze6 then 1001 else if (zr + 1) = (v + 2) then 1002 else if (zr + 1) = (v + 3) then 1003 else Γ (zr + 1)), (if qo = ze6 then 1001 else if qo = (v + 2) then 1002 else if qo = (v + 3) then 1003 else Γ qo), (if (zr + 3) = ze6 then 1001 else if (zr + 3) = (v + 2) then 1002 else if (zr + 3) = (v + 3) then 1003 else Γ (zr + 3)), (if qh = ze6 then 1001 else if qh = (v + 2) then 1002 else if qh = (v + 3) then 1003 else Γ qh), (if v = ze6 then 1001 else if v = (v + 2) then 1002 else if v = (v + 3) then 1003 else Γ v), (if (v + 1) = ze6 then 1001 else if (v + 1) = (v + 2) then 1002 else if (v + 1) = (v + 3) then 1003 else Γ (v + 1)), (if (v + 2) = ze6 then 1001 else if (v + 2) = (v + 2) then 1002 else if (v + 2) = (v + 3) then 1003 else Γ (v + 2)), (if (v + 3) = ze6 then 1001 else if (v + 3) = (v + 2) then 1002 else if (v + 3) = (v + 3) then 1003 else Γ (v + 3)), (if (v + 8) = ze6 then 1001 else if (v + 8) = (v + 2) then 1002 else if (v + 8) = (v + 3) then 1003 else Γ (v + 8))] = _
        rw [(show (if x0 = ze6 then 1001 else if x0 = (v + 2) then 1002 else if x0 = (v + 3) then 1003 else Γ x0) = 1 by rw [if_neg (nt_ne tx t43b (by decide)), if_neg (nt_ne tx s2 (by decide)), if_neg (nt_ne tx s3 (by decide)), tx]), (show (if va = ze6 then 1001 else if va = (v + 2) then 1002 else if va = (v + 3) then 1003 else Γ va) = 20 by rw [if_neg (nt_ne ea t43b (by decide)), if_neg (nt_ne ea s2 (by decide)), if_neg (nt_ne ea s3 (by decide)), ea]), (show (if c4 = ze6 then 1001 else if c4 = (v + 2) then 1002 else if c4 = (v + 3) then 1003 else Γ c4) = 6 by rw [if_neg (nt_ne tz t43b (by decide)), if_neg (nt_ne tz s2 (by decide)), if_neg (nt_ne tz s3 (by decide)), tz]), (show (if zc = ze6 then 1001 else if zc = (v + 2) then 1002 else if zc = (v + 3) then 1003 else Γ zc) = 39 by rw [if_neg (nt_ne t39 t43b (by decide)), if_neg (nt_ne t39 s2 (by decide)), if_neg (nt_ne t39 s3 (by decide)), t39]), (show (if ze1 = ze6 then 1001 else if ze1 = (v + 2) then 1002 else if ze1 = (v + 3) then 1003 else Γ ze1) = 40 by rw [if_neg (nt_ne t40 t43b (by decide)), if_neg (nt_ne t40 s2 (by decide)), if_neg (nt_ne t40 s3 (by decide)), t40]), (show (if ze3 = ze6 then 1001 else if ze3 = (v + 2) then 1002 else if ze3 = (v + 3) then 1003 else Γ ze3) = 42 by rw [if_neg (nt_ne t42 t43b (by decide)), if_neg (nt_ne t42 s2 (by decide)), if_neg (nt_ne t42 s3 (by decide)), t42]), (show (if ze5 = ze6 then 1001 else if ze5 = (v + 2) then 1002 else if ze5 = (v + 3) then 1003 else Γ ze5) = 43 by rw [if_neg (w56), if_neg (nt_ne t43 s2 (by decide)), if_neg (nt_ne t43 s3 (by decide)), t43]), (show (if ze6 = ze6 then 1001 else if ze6 = (v + 2) then 1002 else if ze6 = (v + 3) then 1003 else Γ ze6) = 1001 by rw [if_pos rfl]), (show (if zr = ze6 then 1001 else if zr = (v + 2) then 1002 else if zr = (v + 3) then 1003 else Γ zr) = 7 by rw [if_neg (nt_ne tr7 t43b (by decide)), if_neg (nt_ne tr7 s2 (by decide)), if_neg (nt_ne tr7 s3 (by decide)), tr7]), (show (if (zr + 1) = ze6 then 1001 else if (zr + 1) = (v + 2) then 1002 else if (zr + 1) = (v + 3) then 1003 else Γ (zr + 1)) = 44 by rw [if_neg (nt_ne t44 t43b (by decide)), if_neg (nt_ne t44 s2 (by decide)), if_neg (nt_ne t44 s3 (by decide)), t44]), (show (if qo = ze6 then 1001 else if qo = (v + 2) then 1002 else if qo = (v + 3) then 1003 else Γ qo) = 45 by rw [if_neg (nt_ne t45 t43b (by decide)), if_neg (nt_ne t45 s2 (by decide)), if_neg (nt_ne t45 s3 (by decide)), t45]), (show (if (zr + 3) = ze6 then 1001 else if (zr + 3) = (v + 2) then 1002 else if (zr + 3) = (v + 3) then 1003 else Γ (zr + 3)) = 46 by rw [if_neg (nt_ne t46 t43b (by decide)), if_neg (nt_ne t46 s2 (by decide)), if_neg (nt_ne t46 s3 (by decide)), t46]), (show (if qh = ze6 then 1001 else if qh = (v + 2) then 1002 else if qh = (v + 3) then 1003 else Γ qh) = 47 by rw [if_neg (nt_ne t47 t43b (by decide)), if_neg (nt_ne t47 s2 (by decide)), if_neg (nt_ne t47 s3 (by decide)), t47]), (show (if v = ze6 then 1001 else if v = (v + 2) then 1002 else if v = (v + 3) then 1003 else Γ v) = 3 by rw [if_neg (nt_ne tv t43b (by decide)), if_neg (nt_ne tv s2 (by decide)), if_neg (nt_ne tv s3 (by decide)), tv]), (show (if (v + 1) = ze6 then 1001 else if (v + 1) = (v + 2) then 1002 else if (v + 1) = (v + 3) then 1003 else Γ (v + 1)) = 23 by rw [if_neg (nt_ne s1 t43b (by decide)), if_neg (by omega), if_neg (by omega), s1]), (show (if (v + 2) = ze6 then 1001 else if (v + 2) = (v + 2) then 1002 else if (v + 2) = (v + 3) then 1003 else Γ (v + 2)) = 1002 by rw [if_neg (nt_ne s2 t43b (by decide)), if_pos rfl]), (show (if (v + 3) = ze6 then 1001 else if (v + 3) = (v + 2) then 1002 else if (v + 3) = (v + 3) then 1003 else Γ (v + 3)) = 1003 by rw [if_neg (nt_ne s3 t43b (by decide)), if_neg (by omega), if_pos rfl]), (show (if (v + 8) = ze6 then 1001 else if (v + 8) = (v + 2) then 1002 else if (v + 8) = (v + 3) then 1003 else Γ (v + 8)) = 26 by rw [if_neg (nt_ne s8 t43b (by decide)), if_neg (nt_ne s8 s2 (by decide)), if_neg (nt_ne s8 s3 (by decide)), s8])]) (by decide) (by
        intro k w hw
        match k, hw with
        | 0, hw => cases hw; show Γ x0 ≠ 0; rw [tx]; decide
        | 1, hw => cases hw; show Γ va ≠ 0; rw [ea]; decide
        | 2, hw => cases hw; show Γ c4 ≠ 0; rw [tz]; decide
        | 3, hw => cases hw; show Γ zc ≠ 0; rw [t39]; decide
        | 4, hw => cases hw; show Γ ze1 ≠ 0; rw [t40]; decide
        | 5, hw => cases hw; show Γ ze3 ≠ 0; rw [t42]; decide
        | 6, hw => cases hw; show Γ ze5 ≠ 0; rw [t43]; decide
        | 7, hw => cases hw; show Γ ze6 ≠ 0; rw [t43b]; decide
        | 8, hw => cases hw; show Γ zr ≠ 0; rw [tr7]; decide
        | 9, hw => cases hw; show Γ (zr + 1) ≠ 0; rw [t44]; decide
        | 10, hw => cases hw; show Γ qo ≠ 0; rw [t45]; decide
        | 11, hw => cases hw; show Γ (zr + 3) ≠ 0; rw [t46]; decide
        | 12, hw => cases hw; show Γ qh ≠ 0; rw [t47]; decide
        | 13, hw => cases hw; show Γ v ≠ 0; rw [tv]; decide
        | 14, hw => cases hw; show Γ (v + 1) ≠ 0; rw [s1]; decide
        | 15, hw => cases hw; show Γ (v + 2) ≠ 0; rw [s2]; decide
        | 16, hw => cases hw; show Γ (v + 3) ≠ 0; rw [s3]; decide
        | 17, hw => cases hw; show Γ (v + 8) ≠ 0; rw [s8]; decide
        | k + 18, hw => cases hw), fun x u H1 hp hP hz hk hT1 hun => ?_⟩
      obtain ⟨hx, rfl⟩ := hp
      have hY : RYK g x0 H1 := ⟨hRY.1.keep hT tx hun rfl, c4, ze1, ze2, ze3, ze4, _, _, pw, sa0, FE_at (k := 4) (hP 0 _ rfl) rfl (by decide) rfl, FE_at (k := 6) (hP 2 _ rfl) rfl (by decide) rfl, FE_at (k := 7) (hP 2 _ rfl) rfl (by decide) rfl, FE_at (k := 8) (hP 2 _ rfl) rfl (by decide) rfl, FE_at (k := 9) (hP 2 _ rfl) rfl (by decide) rfl, FE_at (k := 10) (hP 2 _ rfl) rfl (by decide) rfl, FE_at (k := 11) (hP 2 _ rfl) rfl (by decide) rfl, hP 4 _ rfl, va_at.kept wS (hun.arr t41 (by decide) rfl (mdn_at (l := [(41, 0)]) rfl (by decide))), wP, wT, w34, PQ.ne w56 (ls_pq ok.1 hRI)⟩
      exact ⟨congrArg Value.int (hx.trans ((ls_cls ok (hZ i hi).2 wP hRI).trans (vAns_ok (no := -1) (f := fun w => lsH w p1 p2) hnv hi).symm)), hY⟩

theorem fr_pq {p q pc pe : Nat} {de yd : Int32} {yu : Int64} {zp zd zt zm zi0 zi1 rc rp y z : Int32} {kN tO pH pK pA pB oE pW pR k6 k8 K mu mn cA pw ct nw nx fS fO fM fC : Nat → Int32} (hpe : pe ≤ 7) (h : RI fS fM rc) : PQ p q (F_X11_from1 pc pe de yd yu kN tO pH pK pA pB oE pW pR k6 k8 K mu mn p q zp zd zt zm zi0 zi1 cA pw ct nw nx fS fO fM fC rc rp y z).2.2.2.2.2.2.2.2.2.2.2.2.2.1 (F_X11_from1 pc pe de yd yu kN tO pH pK pA pB oE pW pR k6 k8 K mu mn p q zp zd zt zm zi0 zi1 cA pw ct nw nx fS fO fM fC rc rp y z).2.2.2.2.2.2.2.2.2.2.2.2.2.2.1 := by
  unfold F_X11_from1
  split
  · exact PQ.rfl'
  · split
    · exact PQ.rfl'
    · rename_i c
      split
      · exact PQ.rfl'
      · rename_i c3
        have hho := hf_at (show ¬ F_X11_isHourOrFirst z = 0 from c)
        have hho2 := hho.2.2
        have hho3 : ¬ tN z = 24 := fun q => c3 (hho.1.trans (congrArg nI q))
        exact (lh_ok hpe (by omega) h).2.2.1
set_option maxHeartbeats 8000000 in
theorem E11_fromJ {l : Launch} {g : GG} {Γ : Nat → Nat} {x0 n nv np : Nat} {fb : Nat → Int32} {V : Nat → VV} {P : Nat → PP} (hU : UQ TS0 Γ) (hnv : nv ≤ 10) (hnp : np ≤ 12) (hZ : PLX nv V np P) (tx : Γ x0 = 1) (p0 p1 p2 : Int32) : EX l g yX11_from cX11_from 5 (some .int) pX11_from_0 Γ [.ref x0, .int p0, .int p1, .int p2] (fun H => RC1 g x0 n fb nv np H ∧ RCV g x0 nv V H ∧ RCP g x0 np P H ∧ RYK g x0 H) (fun _ _ H1 => RYK g x0 H1) :=
  EX_of (SX11_from_0 l g) hU ⟨av_ref tx (by decide), avi_top _, avi_top _, avi_top _, trivial⟩ rfl fun H hT hR => by
    obtain ⟨hR, hRV, hRP, hRY⟩ := hR
    obtain ⟨va, pa, fA, fB, k1, k9, k2, k11, k13, k14, k15⟩ := hRP
    obtain ⟨t0, tq, va'', pa', sp, fA'', fB', ⟨e0, eq, ea, ep, es⟩, h0, h1, h2, h3, h4, h5, h6, h7, h8, h9, h10, h11, h12, h13⟩ := hR.tags hT tx
    cases FE_fun k1 h1
    cases FE_fun k2 h2
    obtain ⟨c3, c4, c5, c6, c7, c8, c9, cc, A0⟩ := DV1 hT tx h0 h1 h2 h3 h4 h5
    obtain ⟨va', fA', sp', g1, g9, g10, -⟩ := hRV
    cases FE_fun k1 g1
    rcases vin_cases (n := np) (by omega) p0 with hb | ⟨i, hi, rfl⟩
    · have tg : [Γ x0, Γ pa] = [1, 21] := by rw [tx, ep]
      refine ⟨1, _, _, by decide, K_X11_from0 l g x0 t0 va pa c3 c4 c5 c6 c7 c8 c9 sp nv np cc fB p0 p1 p2 hb, vaP_cons A0 (vaP_cons k11 vaP_nil), D_tags (tl := [1, 21]) tg (by decide) (by decide), fun x u H1 hp hP hz hk hT1 hun => ?_⟩
      obtain ⟨hx, rfl⟩ := hp
      have lt : ∀ {q t : Nat}, Γ q = t → t ≠ 0 → q < H.size := fun h h0 => hT.lt (by rw [h]; exact h0)
      obtain ⟨z7, e71, e72, e73, e74, e75, e76, pw, sa0, w0, w1⟩ := hRY.2
      have tz := PWX.tag hT tx w0
      have t40 := PWX.tag1 hT tz w1.1
      have t41 := PWX.tag2 hT tz w1.2.1
      cases FE_fun w0 (FE_at (k := 4) A0 rfl (by decide) rfl)
      exact ⟨hRY.1.keep hT tx hun rfl, PWX.same (FE_at (k := 4) (hP 0 _ rfl) rfl (by decide) rfl) w1 (hk _ (lt tz (by decide)) (nin_tag (tl := [1, 21]) tg tz rfl (lt tz (by decide)))) (hk _ (lt t40 (by decide)) (nin_tag (tl := [1, 21]) tg t40 rfl (lt t40 (by decide)))) (hk _ (lt t41 (by decide)) (nin_tag (tl := [1, 21]) tg t41 rfl (lt t41 (by decide))))⟩
    · obtain ⟨q, v, hB, hA, hPC⟩ := k14 i hi
      obtain ⟨hv, hw⟩ := hZ.1 i hi
      obtain ⟨okV, v', hv', hVC⟩ := g10 (P i).v hv
      cases (RFA_fun k9 g9 (by omega) hA).symm.trans hv'
      have tq4 := RCP.tag hT tx k2 k11 (by omega) hB
      obtain ⟨s0, s1, s2, s3, s4, s5⟩ := hPC.tags hT tq4
      obtain ⟨y1, y2, y3, y4, y5, y6, y7, y8, y9, y10, y11⟩ := hVC.tags hT s0
      obtain ⟨gl, v15, hP0⟩ := hVC
      have AQ := hPC 0 _ rfl
      have s6 := (ref_tag (k := 7) (u := 36) hT tq4 (by decide) rfl rfl (FE_at (k := 7) AQ rfl (by decide) rfl)).1
      have s7 := (ref_tag (k := 8) (u := 37) hT tq4 (by decide) rfl rfl (FE_at (k := 8) AQ rfl (by decide) rfl)).1
      obtain ⟨W, B6⟩ := ints_of hT s6 (by decide) rfl
      obtain ⟨R, B7⟩ := ints_of hT s7 (by decide) rfl
      have hH : ∀ j : Nat, j < 40 → (P i).h j = nI (tN ((P i).h j)) ∧ tN ((P i).h j) ≤ 24 := row_nn hT s1 (show AT g 1 40 (q + 1) (P i).h H from hPC 1 _ rfl) rfl (by omega)
      have hCa : ∀ j : Nat, j < 40 → (P i).a j = nI (tN ((P i).a j)) ∧ tN ((P i).a j) < 7 := fun j hj => by
        obtain ⟨q1, q2⟩ := row_nn (hi := 6) hT s3 (show AT g 1 40 (q + 3) (P i).a H from hPC 3 _ rfl) rfl (by omega) j hj
        exact ⟨q1, by omega⟩
      obtain ⟨c3', yk, yt, r1, r2, r3, r4⟩ := hRY.1
      cases FE_fun r1 (FE_at (k := 3) A0 rfl (by decide) rfl)
      have t5 := RY0.tag hT tx r1
      obtain ⟨yd, yu, yb, A5, t38, t38b⟩ := DV5 hT t5 r2 r3
      obtain ⟨kN, BK⟩ := ints_of hT t38 (by decide) rfl
      obtain ⟨tO, BT⟩ := ints_of hT t38b (by decide) rfl
      obtain ⟨z7, ze1, ze2, ze3, ze4, ze5, ze6, pw, sa0, w0, w1, w2, w3, w4, w5, w6, wA, wS, wP, wT, w34, w56⟩ := hRY.2
      cases FE_fun w0 (FE_at (k := 4) A0 rfl (by decide) rfl)
      have tz := PWX.tag hT tx w0
      obtain ⟨zr, zc, ye1, ye2, ye3, ye4, ye5, ye6, zp, zd, zt, zm, zi0, zi1, zi2, zi3, zi4, AZ, tr7, t39, t40, t41, t42, t42b, t43, t43b⟩ := DV7b hT tz
      cases FE_fun w1 (FE_at (k := 6) AZ rfl (by decide) rfl)
      cases FE_fun w2 (FE_at (k := 7) AZ rfl (by decide) rfl)
      cases FE_fun w3 (FE_at (k := 8) AZ rfl (by decide) rfl)
      cases FE_fun w4 (FE_at (k := 9) AZ rfl (by decide) rfl)
      cases FE_fun w5 (FE_at (k := 10) AZ rfl (by decide) rfl)
      cases FE_fun w6 (FE_at (k := 11) AZ rfl (by decide) rfl)
      obtain ⟨qo, qh, rc, rp, fS, fO, fM, fC, AR, t44, t45, t46, t47, B44, B45, B46, B47, hRI⟩ := DV5r hT tr7
      obtain ⟨cA, B39⟩ := ints_of hT t39 (by decide) rfl
      obtain ⟨ct, B42⟩ := ints_of hT t42 (by decide) rfl
      obtain ⟨gd, B42b⟩ := ints_of hT t42b (by decide) rfl
      obtain ⟨nw, B43⟩ := ints_of hT t43 (by decide) rfl
      obtain ⟨nx, B43b⟩ := ints_of hT t43b (by decide) rfl
      have hpw : ∀ j : Nat, j < 128 → pw j = nI (tN (pw j)) ∧ tN (pw j) ≤ 1093 := row_nn hT t40 wA rfl (by omega)
      refine ⟨13, _, _, by decide, K_X11_from1 l g x0 t0 va pa c3 c4 c5 c6 c7 c8 c9 sp nv np cc fB i q (q + 1) (q + 2) (q + 3) (q + 4) (q + 5) (q + 6) (q + 7) (P i).c v (v + 1) (v + 2) (v + 3) (v + 4) (v + 5) (v + 6) (v + 7) (v + 8) (v + 9) (v + 10) (v + 11) v15 (V (P i).v).p (nI (V (P i).v).lc) (V (P i).v).de gl yk yt yd yu yb kN tO (P i).h (P i).k (P i).a (P i).b (P i).o W R (nwr (V (P i).v).kn) (nwr (V (P i).v).mn) (kx (V (P i).v)) (V (P i).v).mu (V (P i).v).mn zr zc ze1 ze2 ze3 ze4 ze5 ze6 zp zd zt zm zi0 zi1 zi2 zi3 zi4 cA pw ct nw nx (zr + 1) qo (zr + 3) qh fS fO fM fC rc rp p1 p2 hi hnp hB hw.1 hw.2.1 hH hCa (hbj_of okV.1 hw (hZ.2.1 i hi)) okV.1 hpw hRI, vaP_cons A0 (vaP_cons k11 (vaP_cons A5 (vaP_cons BK (vaP_cons BT (vaP_cons (hPC 0 _ rfl) (vaP_cons (hPC 1 _ rfl) (vaP_cons (hPC 2 _ rfl) (vaP_cons (hPC 3 _ rfl) (vaP_cons (hPC 4 _ rfl) (vaP_cons (hPC 5 _ rfl) (vaP_cons B6 (vaP_cons B7 (vaP_cons (hP0 0 _ rfl) (vaP_cons (hP0 4 _ rfl) (vaP_cons (hP0 6 _ rfl) (vaP_cons (hP0 8 _ rfl) (vaP_cons (hP0 2 _ rfl) (vaP_cons (hP0 3 _ rfl) (vaP_cons AZ (vaP_cons B39 (vaP_cons wA (vaP_cons B42 (vaP_cons B43 (vaP_cons B43b (vaP_cons AR (vaP_cons B44 (vaP_cons B45 (vaP_cons B46 (vaP_cons B47 vaP_nil))))))))))))))))))))))))))))), D_keys (K := fun u => (if u = yt then 1001 else if u = (v + 6) then 1002 else if u = (v + 3) then 1003 else if u = ze6 then 1004 else Γ u)) (tl := [1, 21, 5, 38, 1001, 4, 31, 32, 33, 34, 35, 36, 37, 3, 24, 1002, 26, 23, 1003, 6, 39, 40, 42, 43, 1004, 7, 44, 45, 46, 47]) (by
        show [(if x0 = yt then 1001 else if x0 = (v + 6) then 1002 else if x0 = (v + 3) then 1003 else if x0 = ze6 then 1004 else Γ x0), (if pa = yt then 1001 else if pa = (v + 6) then 1002 else if pa = (v + 3) then 1003 else if pa = ze6 then 1004 else Γ pa), (if c3 = yt then 1001 else if c3 = (v + 6) then 1002 else if c3 = (v + 3) then 1003 else if c3 = ze6 then 1004 else Γ c3), (if yk = yt then 1001 else if yk = (v + 6) then 1002 else if yk = (v + 3) then 1003 else if yk = ze6 then 1004 else Γ yk), (if yt = yt then 1001 else if yt = (v + 6) then 1002 else if yt = (v + 3) then 1003 else if yt = ze6 then 1004 else Γ yt), (if q = yt then 1001 else if q = (v + 6) then 1002 else if q = (v + 3) then 1003 else if q = ze6 then 1004 else Γ q), (if (q + 1) = yt then 1001 else if (q + 1) = (v + 6) then 1002 else if (q + 1) = (v + 3) then 1003 else if (q + 1) = ze6 then 1004 else Γ (q + 1)), (if (q + 2) = yt then 1001 else if (q + 2) = (v + 6) then 1002 else if (q + 2) = (v + 3) then 1003 else if (q + 2) = ze6 then 1004 else Γ (q + 2)), (if (q + 3) = yt then 1001 else if (q + 3) = (v + 6) then 1002 else if (q + 3) = (v + 3) then 1003 else if (q + 3) = ze6 then 1004 else Γ (q + 3)), (if (q + 4) = yt then 1001 else if (q + 4) = (v + 6) then 1002 else if (q + 4) = (v + 3) then 1003 else if (q + 4) = ze6 then 1004 else Γ (q + 4)), (if (q + 5) = yt then 1001 else if (q + 5) = (v + 6) then 1002 else if (q + 5) = (v + 3) then 1003 else if (q + 5) = ze6 then 1004 else Γ (q + 5)), (if (q + 6) = yt then 1001 else if (q + 6) = (v + 6) then 1002 else if (q + 6) = (v + 3) then 1003 else if (q + 6) = ze6 then 1004 else Γ (q + 6)), (if (q + 7) = yt then 1001 else if (q + 7) = (v + 6) then 1002 else if (q + 7) = (v + 3) then 1003 else if (q + 7) = ze6 then 1004 else Γ (q + 7)), (if v = yt then 1001 else if v = (v + 6) then 1002 else if v = (v + 3) then 1003 else if v = ze6 then 1004 else Γ v), (if (v + 4) = yt then 1001 else if (v + 4) = (v + 6) then 1002 else if (v + 4) = (v + 3) then 1003 else if (v + 4) = ze6 then 1004 else Γ (v + 4)), (if (v + 6) = yt then 1001 else if (v + 6) = (v + 6) then 1002 else if (v + 6) = (v + 3) then 1003 else if (v + 6) = ze6 then 1004 else Γ (v + 6)), (if (v + 8) = yt then 1001 else if (v + 8) = (v + 6) then 1002 else if (v + 8) = (v + 3) then 1003 else if (v + 8) = ze6 then 1004 else Γ (v + 8)), (if (v + 2) = yt then 1001 else if (v + 2) = (v + 6) then 1002 else if (v + 2) = (v + 3) then 1003 else if (v + 2) = ze6 then 1004 else Γ (v + 2)), (if (v + 3) = yt then 1001 else if (v + 3) = (v + 6) then 1002 else if (v + 3) = (v + 3) then 1003 else if (v + 3) = ze6 then 1004 else Γ (v + 3)), (if c4 = yt then 1001 else if c4 = (v + 6) then 1002 else if c4 = (v + 3) then 1003 else if c4 = ze6 then 1004 else Γ c4), (if zc = yt then 1001 else if zc = (v + 6) then 1002 else if zc = (v + 3) then 1003 else if zc = ze6 then 1004 else Γ zc), (if ze1 = yt then 1001 else if ze1 = (v + 6) then 1002 else if ze1 = (v + 3) then 1003 else if ze1 = ze6 then 1004 else Γ ze1), (if ze3 = yt then 1001 else if ze3 = (v + 6) then 1002 else if ze3 = (v + 3) then 1003 else if ze3 = ze6 then 1004 else Γ ze3), (if ze5 = yt then 1001 else if ze5 = (v + 6) then 1002 else if ze5 = (v + 3) then 1003 else if ze5 = ze6 then 1004 else Γ ze5), (if ze6 = yt then 1001 else if ze6 = (v + 6) then 1002 else if ze6 = (v + 3) then 1003 else if ze6 = ze6 then 1004 else Γ ze6), (if zr = yt then 1001 else if zr = (v + 6) then 1002 else if zr = (v + 3) then 1003 else if zr = ze6 then 1004 else Γ zr), (if (zr + 1) = yt then 1001 else if (zr + 1) = (v + 6) then 1002 else if (zr + 1) = (v + 3) then 1003 else if (zr + 1) = ze6 then 1004 else Γ (zr + 1)), (if qo = yt then 1001 else if qo = (v + 6) then 1002 else if qo = (v + 3) then 1003 else if qo = ze6 then 1004 else Γ qo), (if (zr + 3) = yt then 1001 else if (zr + 3) = (v + 6) then 1002 else if (zr + 3) = (v + 3) then 1003 else if (zr + 3) = ze6 then 1004 else Γ (zr + 3)), (if qh = yt then 1001 else if qh = (v + 6) then 1002 else if qh = (v + 3) then 1003 else if qh = ze6 then 1004 else Γ qh)] = _
        rw [(show (if x0 = yt then 1001 else if x0 = (v + 6) then 1002 else if x0 = (v + 3) then 1003 else if x0 = ze6 then 1004 else Γ x0) = 1 by rw [if_neg (nt_ne tx t38b (by decide)), if_neg (nt_ne tx y6 (by decide)), if_neg (nt_ne tx y3 (by decide)), if_neg (nt_ne tx t43b (by decide)), tx]), (show (if pa = yt then 1001 else if pa = (v + 6) then 1002 else if pa = (v + 3) then 1003 else if pa = ze6 then 1004 else Γ pa) = 21 by rw [if_neg (nt_ne ep t38b (by decide)), if_neg (nt_ne ep y6 (by decide)), if_neg (nt_ne ep y3 (by decide)), if_neg (nt_ne ep t43b (by decide)), ep]), (show (if c3 = yt then 1001 else if c3 = (v + 6) then 1002 else if c3 = (v + 3) then 1003 else if c3 = ze6 then 1004 else Γ c3) = 5 by rw [if_neg (nt_ne t5 t38b (by decide)), if_neg (nt_ne t5 y6 (by decide)), if_neg (nt_ne t5 y3 (by decide)), if_neg (nt_ne t5 t43b (by decide)), t5]), (show (if yk = yt then 1001 else if yk = (v + 6) then 1002 else if yk = (v + 3) then 1003 else if yk = ze6 then 1004 else Γ yk) = 38 by rw [if_neg (r4), if_neg (nt_ne t38 y6 (by decide)), if_neg (nt_ne t38 y3 (by decide)), if_neg (nt_ne t38 t43b (by decide)), t38]), (show (if yt = yt then 1001 else if yt = (v + 6) then 1002 else if yt = (v + 3) then 1003 else if yt = ze6 then 1004 else Γ yt) = 1001 by rw [if_pos rfl]), (show (if q = yt then 1001 else if q = (v + 6) then 1002 else if q = (v + 3) then 1003 else if q = ze6 then 1004 else Γ q) = 4 by rw [if_neg (nt_ne tq4 t38b (by decide)), if_neg (nt_ne tq4 y6 (by decide)), if_neg (nt_ne tq4 y3 (by decide)), if_neg (nt_ne tq4 t43b (by decide)), tq4]), (show (if (q + 1) = yt then 1001 else if (q + 1) = (v + 6) then 1002 else if (q + 1) = (v + 3) then 1003 else if (q + 1) = ze6 then 1004 else Γ (q + 1)) = 31 by rw [if_neg (nt_ne s1 t38b (by decide)), if_neg (nt_ne s1 y6 (by decide)), if_neg (nt_ne s1 y3 (by decide)), if_neg (nt_ne s1 t43b (by decide)), s1]), (show (if (q + 2) = yt then 1001 else if (q + 2) = (v + 6) then 1002 else if (q + 2) = (v + 3) then 1003 else if (q + 2) = ze6 then 1004 else Γ (q + 2)) = 32 by rw [if_neg (nt_ne s2 t38b (by decide)), if_neg (nt_ne s2 y6 (by decide)), if_neg (nt_ne s2 y3 (by decide)), if_neg (nt_ne s2 t43b (by decide)), s2]), (show (if (q + 3) = yt then 1001 else if (q + 3) = (v + 6) then 1002 else if (q + 3) = (v + 3) then 1003 else if (q + 3) = ze6 then 1004 else Γ (q + 3)) = 33 by rw [if_neg (nt_ne s3 t38b (by decide)), if_neg (nt_ne s3 y6 (by decide)), if_neg (nt_ne s3 y3 (by decide)), if_neg (nt_ne s3 t43b (by decide)), s3]), (show (if (q + 4) = yt then 1001 else if (q + 4) = (v + 6) then 1002 else if (q + 4) = (v + 3) then 1003 else if (q + 4) = ze6 then 1004 else Γ (q + 4)) = 34 by rw [if_neg (nt_ne s4 t38b (by decide)), if_neg (nt_ne s4 y6 (by decide)), if_neg (nt_ne s4 y3 (by decide)), if_neg (nt_ne s4 t43b (by decide)), s4]), (show (if (q + 5) = yt then 1001 else if (q + 5) = (v + 6) then 1002 else if (q + 5) = (v + 3) then 1003 else if (q + 5) = ze6 then 1004 else Γ (q + 5)) = 35 by rw [if_neg (nt_ne s5 t38b (by decide)), if_neg (nt_ne s5 y6 (by decide)), if_neg (nt_ne s5 y3 (by decide)), if_neg (nt_ne s5 t43b (by decide)), s5]), (show (if (q + 6) = yt then 1001 else if (q + 6) = (v + 6) then 1002 else if (q + 6) = (v + 3) then 1003 else if (q + 6) = ze6 then 1004 else Γ (q + 6)) = 36 by rw [if_neg (nt_ne s6 t38b (by decide)), if_neg (nt_ne s6 y6 (by decide)), if_neg (nt_ne s6 y3 (by decide)), if_neg (nt_ne s6 t43b (by decide)), s6]), (show (if (q + 7) = yt then 1001 else if (q + 7) = (v + 6) then 1002 else if (q + 7) = (v + 3) then 1003 else if (q + 7) = ze6 then 1004 else Γ (q + 7)) = 37 by rw [if_neg (nt_ne s7 t38b (by decide)), if_neg (nt_ne s7 y6 (by decide)), if_neg (nt_ne s7 y3 (by decide)), if_neg (nt_ne s7 t43b (by decide)), s7]), (show (if v = yt then 1001 else if v = (v + 6) then 1002 else if v = (v + 3) then 1003 else if v = ze6 then 1004 else Γ v) = 3 by rw [if_neg (nt_ne s0 t38b (by decide)), if_neg (nt_ne s0 y6 (by decide)), if_neg (nt_ne s0 y3 (by decide)), if_neg (nt_ne s0 t43b (by decide)), s0]), (show (if (v + 4) = yt then 1001 else if (v + 4) = (v + 6) then 1002 else if (v + 4) = (v + 3) then 1003 else if (v + 4) = ze6 then 1004 else Γ (v + 4)) = 24 by rw [if_neg (nt_ne y4 t38b (by decide)), if_neg (by omega), if_neg (nt_ne y4 y3 (by decide)), if_neg (nt_ne y4 t43b (by decide)), y4]), (show (if (v + 6) = yt then 1001 else if (v + 6) = (v + 6) then 1002 else if (v + 6) = (v + 3) then 1003 else if (v + 6) = ze6 then 1004 else Γ (v + 6)) = 1002 by rw [if_neg (nt_ne y6 t38b (by decide)), if_pos rfl]), (show (if (v + 8) = yt then 1001 else if (v + 8) = (v + 6) then 1002 else if (v + 8) = (v + 3) then 1003 else if (v + 8) = ze6 then 1004 else Γ (v + 8)) = 26 by rw [if_neg (nt_ne y8 t38b (by decide)), if_neg (nt_ne y8 y6 (by decide)), if_neg (nt_ne y8 y3 (by decide)), if_neg (nt_ne y8 t43b (by decide)), y8]), (show (if (v + 2) = yt then 1001 else if (v + 2) = (v + 6) then 1002 else if (v + 2) = (v + 3) then 1003 else if (v + 2) = ze6 then 1004 else Γ (v + 2)) = 23 by rw [if_neg (nt_ne y2 t38b (by decide)), if_neg (nt_ne y2 y6 (by decide)), if_neg (by omega), if_neg (nt_ne y2 t43b (by decide)), y2]), (show (if (v + 3) = yt then 1001 else if (v + 3) = (v + 6) then 1002 else if (v + 3) = (v + 3) then 1003 else if (v + 3) = ze6 then 1004 else Γ (v + 3)) = 1003 by rw [if_neg (nt_ne y3 t38b (by decide)), if_neg (nt_ne y3 y6 (by decide)), if_pos rfl]), (show (if c4 = yt then 1001 else if c4 = (v + 6) then 1002 else if c4 = (v + 3) then 1003 else if c4 = ze6 then 1004 else Γ c4) = 6 by rw [if_neg (nt_ne tz t38b (by decide)), if_neg (nt_ne tz y6 (by decide)), if_neg (nt_ne tz y3 (by decide)), if_neg (nt_ne tz t43b (by decide)), tz]), (show (if zc = yt then 1001 else if zc = (v + 6) then 1002 else if zc = (v + 3) then 1003 else if zc = ze6 then 1004 else Γ zc) = 39 by rw [if_neg (nt_ne t39 t38b (by decide)), if_neg (nt_ne t39 y6 (by decide)), if_neg (nt_ne t39 y3 (by decide)), if_neg (nt_ne t39 t43b (by decide)), t39]), (show (if ze1 = yt then 1001 else if ze1 = (v + 6) then 1002 else if ze1 = (v + 3) then 1003 else if ze1 = ze6 then 1004 else Γ ze1) = 40 by rw [if_neg (nt_ne t40 t38b (by decide)), if_neg (nt_ne t40 y6 (by decide)), if_neg (nt_ne t40 y3 (by decide)), if_neg (nt_ne t40 t43b (by decide)), t40]), (show (if ze3 = yt then 1001 else if ze3 = (v + 6) then 1002 else if ze3 = (v + 3) then 1003 else if ze3 = ze6 then 1004 else Γ ze3) = 42 by rw [if_neg (nt_ne t42 t38b (by decide)), if_neg (nt_ne t42 y6 (by decide)), if_neg (nt_ne t42 y3 (by decide)), if_neg (nt_ne t42 t43b (by decide)), t42]), (show (if ze5 = yt then 1001 else if ze5 = (v + 6) then 1002 else if ze5 = (v + 3) then 1003 else if ze5 = ze6 then 1004 else Γ ze5) = 43 by rw [if_neg (nt_ne t43 t38b (by decide)), if_neg (nt_ne t43 y6 (by decide)), if_neg (nt_ne t43 y3 (by decide)), if_neg (w56), t43]), (show (if ze6 = yt then 1001 else if ze6 = (v + 6) then 1002 else if ze6 = (v + 3) then 1003 else if ze6 = ze6 then 1004 else Γ ze6) = 1004 by rw [if_neg (nt_ne t43b t38b (by decide)), if_neg (nt_ne t43b y6 (by decide)), if_neg (nt_ne t43b y3 (by decide)), if_pos rfl]), (show (if zr = yt then 1001 else if zr = (v + 6) then 1002 else if zr = (v + 3) then 1003 else if zr = ze6 then 1004 else Γ zr) = 7 by rw [if_neg (nt_ne tr7 t38b (by decide)), if_neg (nt_ne tr7 y6 (by decide)), if_neg (nt_ne tr7 y3 (by decide)), if_neg (nt_ne tr7 t43b (by decide)), tr7]), (show (if (zr + 1) = yt then 1001 else if (zr + 1) = (v + 6) then 1002 else if (zr + 1) = (v + 3) then 1003 else if (zr + 1) = ze6 then 1004 else Γ (zr + 1)) = 44 by rw [if_neg (nt_ne t44 t38b (by decide)), if_neg (nt_ne t44 y6 (by decide)), if_neg (nt_ne t44 y3 (by decide)), if_neg (nt_ne t44 t43b (by decide)), t44]), (show (if qo = yt then 1001 else if qo = (v + 6) then 1002 else if qo = (v + 3) then 1003 else if qo = ze6 then 1004 else Γ qo) = 45 by rw [if_neg (nt_ne t45 t38b (by decide)), if_neg (nt_ne t45 y6 (by decide)), if_neg (nt_ne t45 y3 (by decide)), if_neg (nt_ne t45 t43b (by decide)), t45]), (show (if (zr + 3) = yt then 1001 else if (zr + 3) = (v + 6) then 1002 else if (zr + 3) = (v + 3) then 1003 else if (zr + 3) = ze6 then 1004 else Γ (zr + 3)) = 46 by rw [if_neg (nt_ne t46 t38b (by decide)), if_neg (nt_ne t46 y6 (by decide)), if_neg (nt_ne t46 y3 (by decide)), if_neg (nt_ne t46 t43b (by decide)), t46]), (show (if qh = yt then 1001 else if qh = (v + 6) then 1002 else if qh = (v + 3) then 1003 else if qh = ze6 then 1004 else Γ qh) = 47 by rw [if_neg (nt_ne t47 t38b (by decide)), if_neg (nt_ne t47 y6 (by decide)), if_neg (nt_ne t47 y3 (by decide)), if_neg (nt_ne t47 t43b (by decide)), t47])]) (by decide) (by
        intro k w hw
        match k, hw with
        | 0, hw => cases hw; show Γ x0 ≠ 0; rw [tx]; decide
        | 1, hw => cases hw; show Γ pa ≠ 0; rw [ep]; decide
        | 2, hw => cases hw; show Γ c3 ≠ 0; rw [t5]; decide
        | 3, hw => cases hw; show Γ yk ≠ 0; rw [t38]; decide
        | 4, hw => cases hw; show Γ yt ≠ 0; rw [t38b]; decide
        | 5, hw => cases hw; show Γ q ≠ 0; rw [tq4]; decide
        | 6, hw => cases hw; show Γ (q + 1) ≠ 0; rw [s1]; decide
        | 7, hw => cases hw; show Γ (q + 2) ≠ 0; rw [s2]; decide
        | 8, hw => cases hw; show Γ (q + 3) ≠ 0; rw [s3]; decide
        | 9, hw => cases hw; show Γ (q + 4) ≠ 0; rw [s4]; decide
        | 10, hw => cases hw; show Γ (q + 5) ≠ 0; rw [s5]; decide
        | 11, hw => cases hw; show Γ (q + 6) ≠ 0; rw [s6]; decide
        | 12, hw => cases hw; show Γ (q + 7) ≠ 0; rw [s7]; decide
        | 13, hw => cases hw; show Γ v ≠ 0; rw [s0]; decide
        | 14, hw => cases hw; show Γ (v + 4) ≠ 0; rw [y4]; decide
        | 15, hw => cases hw; show Γ (v + 6) ≠ 0; rw [y6]; decide
        | 16, hw => cases hw; show Γ (v + 8) ≠ 0; rw [y8]; decide
        | 17, hw => cases hw; show Γ (v + 2) ≠ 0; rw [y2]; decide
        | 18, hw => cases hw; show Γ (v + 3) ≠ 0; rw [y3]; decide
        | 19, hw => cases hw; show Γ c4 ≠ 0; rw [tz]; decide
        | 20, hw => cases hw; show Γ zc ≠ 0; rw [t39]; decide
        | 21, hw => cases hw; show Γ ze1 ≠ 0; rw [t40]; decide
        | 22, hw => cases hw; show Γ ze3 ≠ 0; rw [t42]; decide
        | 23, hw => cases hw; show Γ ze5 ≠ 0; rw [t43]; decide
        | 24, hw => cases hw; show Γ ze6 ≠ 0; rw [t43b]; decide
        | 25, hw => cases hw; show Γ zr ≠ 0; rw [tr7]; decide
        | 26, hw => cases hw; show Γ (zr + 1) ≠ 0; rw [t44]; decide
        | 27, hw => cases hw; show Γ qo ≠ 0; rw [t45]; decide
        | 28, hw => cases hw; show Γ (zr + 3) ≠ 0; rw [t46]; decide
        | 29, hw => cases hw; show Γ qh ≠ 0; rw [t47]; decide
        | k + 30, hw => cases hw), fun x u H1 hp hP hz hk hT1 hun => ?_⟩
      obtain ⟨hx, rfl⟩ := hp
      exact ⟨hRY.1.keep hT tx hun rfl, c4, ze1, ze2, ze3, ze4, _, _, pw, sa0, FE_at (k := 4) (hP 0 _ rfl) rfl (by decide) rfl, FE_at (k := 6) (hP 19 _ rfl) rfl (by decide) rfl, FE_at (k := 7) (hP 19 _ rfl) rfl (by decide) rfl, FE_at (k := 8) (hP 19 _ rfl) rfl (by decide) rfl, FE_at (k := 9) (hP 19 _ rfl) rfl (by decide) rfl, FE_at (k := 10) (hP 19 _ rfl) rfl (by decide) rfl, FE_at (k := 11) (hP 19 _ rfl) rfl (by decide) rfl, hP 21 _ rfl, va_at.kept wS (hun.arr t41 (by decide) rfl (mdn_at (l := [(41, 0)]) rfl (by decide))), wP, wT, w34, PQ.ne w56 (fr_pq okV.1 hRI)⟩

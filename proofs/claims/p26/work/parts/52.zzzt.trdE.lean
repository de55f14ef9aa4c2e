theorem fw_l1 {pe lc n : Nat} {L : Nat → Int32} (hn : n ≤ 8) : ∀ (m j : Nat) (a b c : Nat → Int32) (p q : Nat), n < m + j → j ≤ n → PQ p q (L1_X9_fewestCalls pe lc L n m j a b c p q).2.1 (L1_X9_fewestCalls pe lc L n m j a b c p q).2.2.1
  | 0, j, _, _, _, _, _, h, h2 => absurd h (by omega)
  | m + 1, j, a, b, c, p, q, h, h2 => by
    rw [L1_X9_fewestCalls]
    by_cases c1 : nI n < nI (j + 1)
    · rw [if_pos c1]
      by_cases c2 : (1000 : Int32) ≤ a (tN (F_X9_placeOf (F_X9_goal pe)))
      · rw [if_pos c2]; exact PQ.rfl'
      · rw [if_neg c2]; exact PQ.rfl'
    · rw [if_neg c1]
      have hj : j + 1 ≤ n := by
        by_cases z : j + 1 ≤ n
        · exact z
        · exact absurd ((nI_ltI (a := n) (b := j + 1) (by omega) (by omega)).mpr (by omega)) c1
      exact Or.symm (fw_l1 hn m (j + 1) _ _ _ q p (by omega) hj)
theorem fw_pq {pe lc n tn tx : Nat} {L fx fo : Nat → Int32} (hn : n ≤ 8) : PQ tn tx (F_X9_fewestCalls tn tx fx fo pe lc L n).2.1 (F_X9_fewestCalls tn tx fx fo pe lc L n).2.2.1 := fw_l1 hn (n + 1) 0 _ _ _ tn tx (by omega) (Nat.zero_le _)
theorem td_pq {tn tx pe lc : Nat} {fn fx fo L : Nat → Int32} {y z : Int32} : PQ tn tx (F_X11_trade1 tn tx fn fx fo pe lc L y z).2.1 (F_X11_trade1 tn tx fn fx fo pe lc L y z).2.2.1 := by
  unfold F_X11_trade1
  by_cases c1 : 4 < nI pe
  · rw [if_pos c1]; exact PQ.rfl'
  · rw [if_neg c1]
    by_cases c2 : y < 1
    · rw [if_pos c2]; exact PQ.rfl'
    · rw [if_neg c2]
      by_cases c3 : 8 < y
      · rw [if_pos c3]; exact PQ.rfl'
      · rw [if_neg c3]
        obtain ⟨-, y1, y2⟩ := h8_at c2 c3
        have a := fw_pq (pe := pe) (lc := lc) (tn := tn) (tx := tx) (L := L) (fx := fx) (fo := fo) y2
        have b := fw_pq (pe := pe) (lc := lc) (n := tN y - 1) (tn := (F_X9_fewestCalls tn tx fx fo pe lc L (tN y)).2.1) (tx := (F_X9_fewestCalls tn tx fx fo pe lc L (tN y)).2.2.1) (L := L) (fx := (F_X9_fewestCalls tn tx fx fo pe lc L (tN y)).2.2.2.2.1) (fo := (F_X9_fewestCalls tn tx fx fo pe lc L (tN y)).2.2.2.2.2) (by omega)
        generalize F_X9_fewestCalls (F_X9_fewestCalls tn tx fx fo pe lc L (tN y)).2.1 (F_X9_fewestCalls tn tx fx fo pe lc L (tN y)).2.2.1 (F_X9_fewestCalls tn tx fx fo pe lc L (tN y)).2.2.2.2.1 (F_X9_fewestCalls tn tx fx fo pe lc L (tN y)).2.2.2.2.2 pe lc L (tN y - 1) = UB at b ⊢
        generalize F_X9_fewestCalls tn tx fx fo pe lc L (tN y) = UA at a b ⊢
        by_cases c4 : z < 0
        · rw [if_pos c4]; exact PQ.rfl'
        · rw [if_neg c4]
          by_cases c5 : z ≤ 1
          · rw [if_pos c5]
            by_cases c6 : z = 0
            · rw [if_pos c6]; exact a
            · rw [if_neg c6]
              by_cases c7 : UA.1 = -1
              · rw [if_pos c7]; exact a
              · rw [if_neg c7]
                by_cases c8 : nI (tN y) ≤ 1
                · rw [if_pos c8]; exact a
                · rw [if_neg c8]
                  by_cases c9 : UB.1 = UA.1
                  · rw [if_pos c9]; exact PQ.tr a b
                  · rw [if_neg c9]; exact PQ.tr a b
          · rw [if_neg c5]; exact PQ.rfl'
theorem DV10 {g : GG} {Γ : Nat → Nat} {H : Heap} {c : Nat} (hT : HT g TS0 Γ H) (hc : Γ c = 10) : ∃ (e1 e2 e3 : Nat), va_at g.1 CLS (c, .inr (9, [.ref e1, .ref e2, .ref e3])) H ∧ Γ e1 = 49 ∧ Γ e2 = 49 ∧ Γ e3 = 50 := by
  obtain ⟨vs, A, hv⟩ := h_obj hT (by rw [hc]; decide) ((congrArg TS0.1 hc).trans rfl)
  obtain ⟨w0, s0, rfl, a0, hv⟩ := vr_cons hv
  obtain ⟨w1, s1, rfl, a1, hv⟩ := vr_cons hv
  obtain ⟨w2, s2, rfl, a2, hv⟩ := vr_cons hv
  obtain rfl := vr_nil hv
  obtain ⟨c0, rfl, t0, -⟩ := avi_ref rfl a0
  obtain ⟨c1, rfl, t1, -⟩ := avi_ref rfl a1
  obtain ⟨c2, rfl, t2, -⟩ := avi_ref rfl a2
  have t0 : Γ c0 = 49 := t0
  have t1 : Γ c1 = 49 := t1
  have t2 : Γ c2 = 50 := t2
  exact ⟨c0, c1, c2, A, t0, t1, t2⟩

set_option maxHeartbeats 8000000 in
theorem E11_tradeP {l : Launch} {g : GG} {Γ : Nat → Nat} {x0 n nv np : Nat} {fb : Nat → Int32} {V : Nat → VV} (hU : UQ TS0 Γ) (hnv : nv ≤ 10) (tx : Γ x0 = 1) (p0 p1 p2 : Int32) : EX l g yX11_trade cX11_trade 6 (some .int) pX11_trade_0 Γ [.ref x0, .int p0, .int p1, .int p2] (fun H => RC1 g x0 n fb nv np H ∧ RCV g x0 nv V H ∧ RYK g x0 H) (fun _ v H1 => v = .int (vAns nv V p0 (-1) (fun w => tdA w p1 p2)) ∧ RYK g x0 H1) :=
  EX_of (SX11_trade_0 l g) hU ⟨av_ref tx (by decide), avi_top _, avi_top _, avi_top _, trivial⟩ rfl fun H hT hR => by
    obtain ⟨hC, hD, hRY⟩ := hR
    have hR := And.intro hC hD
    obtain ⟨hR, va, fA, sp, g1, g9, g10, g14, g15, g16, g17⟩ := hR
    obtain ⟨t0, tq, va', pa, sp', fA', fB, ⟨e0, eq, ea, ep, es⟩, h0, h1, h2, h3, h4, h5, h6, h7, h8, -, -, -, -, h13⟩ := hR.tags hT tx
    cases FE_fun g1 h1
    cases FE_fun g15 h3
    obtain ⟨c3, c4, c5, c6, c7, c8, c9, cc, A0⟩ := DV1 hT tx h0 h1 h2 h3 h4 h5
    obtain ⟨z3, yk, yt, r1, r2, r3, r4⟩ := hRY
    have tz := RYK.tag hT tx r1
    cases FE_fun r1 (FE_at (k := 7) A0 rfl (by decide) rfl)
    rcases vin_cases (n := nv) (by omega) p0 with hb | ⟨i, hi, rfl⟩
    · have tg : [Γ x0, Γ va] = [1, 20] := by rw [tx, ea]
      refine ⟨1, _, _, by decide, K_X11_trade0 l g x0 t0 va pa c3 c4 c5 c6 c7 c8 c9 sp nv np cc fA p0 p1 p2 hb, vaP_cons A0 (vaP_cons g9 vaP_nil), D_tags (tl := [1, 20]) tg (by decide) (by decide), fun x u H1 hp hP hz hk hT1 hun => ?_⟩
      obtain ⟨hx, rfl⟩ := hp
      have lt : ∀ {q t : Nat}, Γ q = t → t ≠ 0 → q < H.size := fun h h0 => hT.lt (by rw [h]; exact h0)
      exact ⟨by rw [hx, vAns_no hb]; rfl, RYK.same (FE_at (k := 7) (hP 0 _ rfl) rfl (by decide) rfl) r2 r3 r4 (hk _ (lt tz (by decide)) (nin_tag (tl := [1, 20]) tg tz rfl (lt tz (by decide))))⟩
    · obtain ⟨ok, v, hv, hV⟩ := g10 i hi
      have tv := RCV.tag hT tx g1 g9 (by omega) hv
      obtain ⟨s1, s2, s3, s4, s5, s6, s7, s8, s9, s10, s11⟩ := hV.tags hT tv
      obtain ⟨gl, v15, hP0⟩ := hV
      obtain ⟨e1, e2, e3, AZ, t49, t49b, t50⟩ := DV10 hT tz
      cases FE_fun r2 (FE_at (k := 0) AZ rfl (by decide) rfl)
      cases FE_fun r3 (FE_at (k := 1) AZ rfl (by decide) rfl)
      obtain ⟨fn, B1⟩ := ints_of hT t49 (by decide) rfl
      obtain ⟨fx, B2⟩ := ints_of hT t49b (by decide) rfl
      obtain ⟨fo, B3, -⟩ := h_ints (Or.inr (Or.inr rfl)) hT (by rw [t50]; decide) ((congrArg TS0.1 t50).trans rfl)
      refine ⟨5, _, _, by decide, K_X11_trade1 l g x0 t0 va pa c3 c4 c5 c6 c7 c8 c9 sp nv np cc fA i yk yt e3 fn fx fo v (v + 1) (v + 2) (v + 3) (v + 4) (v + 5) (v + 6) (v + 7) (v + 8) (v + 9) (v + 10) (v + 11) v15 (V i).p (V i).lc (V i).de gl (V i).L p1 p2 hi hnv hv ok.2.1 ok.1, vaP_cons A0 (vaP_cons g9 (vaP_cons AZ (vaP_cons B1 (vaP_cons B2 (vaP_cons B3 (vaP_cons (hP0 0 _ rfl) (vaP_cons (hP0 7 _ rfl) vaP_nil))))))), D_keys (K := fun u => (if u = yt then 1001 else Γ u)) (tl := [1, 20, 10, 49, 1001, 50, 3, 25]) (by
        show [(if x0 = yt then 1001 else Γ x0), (if va = yt then 1001 else Γ va), (if c7 = yt then 1001 else Γ c7), (if yk = yt then 1001 else Γ yk), (if yt = yt then 1001 else Γ yt), (if e3 = yt then 1001 else Γ e3), (if v = yt then 1001 else Γ v), (if (v + 7) = yt then 1001 else Γ (v + 7))] = _
        rw [(show (if x0 = yt then 1001 else Γ x0) = 1 by rw [if_neg (nt_ne tx t49b (by decide)), tx]), (show (if va = yt then 1001 else Γ va) = 20 by rw [if_neg (nt_ne ea t49b (by decide)), ea]), (show (if c7 = yt then 1001 else Γ c7) = 10 by rw [if_neg (nt_ne tz t49b (by decide)), tz]), (show (if yk = yt then 1001 else Γ yk) = 49 by rw [if_neg (r4), t49]), (show (if yt = yt then 1001 else Γ yt) = 1001 by rw [if_pos rfl]), (show (if e3 = yt then 1001 else Γ e3) = 50 by rw [if_neg (nt_ne t50 t49b (by decide)), t50]), (show (if v = yt then 1001 else Γ v) = 3 by rw [if_neg (nt_ne tv t49b (by decide)), tv]), (show (if (v + 7) = yt then 1001 else Γ (v + 7)) = 25 by rw [if_neg (nt_ne s7 t49b (by decide)), s7])]) (by decide) (by
        intro k w hw
        match k, hw with
        | 0, hw => cases hw; show Γ x0 ≠ 0; rw [tx]; decide
        | 1, hw => cases hw; show Γ va ≠ 0; rw [ea]; decide
        | 2, hw => cases hw; show Γ c7 ≠ 0; rw [tz]; decide
        | 3, hw => cases hw; show Γ yk ≠ 0; rw [t49]; decide
        | 4, hw => cases hw; show Γ yt ≠ 0; rw [t49b]; decide
        | 5, hw => cases hw; show Γ e3 ≠ 0; rw [t50]; decide
        | 6, hw => cases hw; show Γ v ≠ 0; rw [tv]; decide
        | 7, hw => cases hw; show Γ (v + 7) ≠ 0; rw [s7]; decide
        | k + 8, hw => cases hw), fun x u H1 hp hP hz hk hT1 hun => ?_⟩
      obtain ⟨hx, rfl⟩ := hp
      exact ⟨congrArg Value.int (hx.trans ((td_cls ok).trans (vAns_ok (no := -1) (f := fun w => tdA w p1 p2) hnv hi).symm)), c7, _, _, FE_at (k := 7) (hP 0 _ rfl) rfl (by decide) rfl, FE_at (k := 0) (hP 2 _ rfl) rfl (by decide) rfl, FE_at (k := 1) (hP 2 _ rfl) rfl (by decide) rfl, PQ.ne r4 td_pq⟩

set_option maxHeartbeats 8000000 in
theorem E12_tradeP {l : Launch} {g : GG} {Γ : Nat → Nat} {m0 n nv np : Nat} {fb : Nat → Int32} {V : Nat → VV} (hU : UQ TS0 Γ) (hnv : nv ≤ 10) (tm : Γ m0 = 60) (p0 p1 p2 : Int32) : EX l g yX12_trade cX12_trade 6 (some .int) pX12_trade_0 Γ [.ref m0, .int p0, .int p1, .int p2] (fun H => RR1 g m0 n fb nv np H ∧ RRV g m0 nv V H) (fun _ v _ => v = .int (vAns nv V p0 (-1) (fun w => tdA w p1 p2))) :=
  EX_of (SX12_trade_0 l g) hU ⟨av_ref tm (by decide), avi_top _, avi_top _, avi_top _, trivial⟩ rfl fun H hT hR => by
    obtain ⟨hR, B, F, hB, hV⟩ := hR
    obtain ⟨tr, er, h1, h2, h3, h4, h5⟩ := hR.tags hT tm
    obtain ⟨ws, A0, hv⟩ := h_obj hT (by rw [tm]; decide) ((congrArg TS0.1 tm).trans rfl)
    have hlen := KV_len (KV_of hv)
    have F18 := at_fe (k := 18) A0 rfl (by rw [hlen]; decide) h3
    by_cases hbad : F_X12_isValley nv p0 = 0 ∨ 4 < F 6 (tN p0) ∨ F_X12_isIn p1 1 8 = 0 ∨ F_X12_isIn p2 0 1 = 0
    · have G6 := at_fe (k := 6) A0 rfl (by rw [hlen]; decide) (hB 6 (by decide)).1
      have t6 : Γ (B 6) = 62 := (hB.tag hT tm (k := 6) (by decide)).1
      have tg : [Γ m0, Γ (B 6)] = [60, 62] := by rw [tm, t6]
      refine ⟨1, _, _, by decide, K_X12_trade0 l g m0 ws nv (B 6) (F 6) p0 p1 p2 hlen F18 G6 hnv hbad, vaP_cons A0 (vaP_cons (hB 6 (by decide)).2 vaP_nil), D_tags (tl := [60, 62]) tg (by decide) (by decide), fun x u H1 hp hP hz hk hT1 hun => ?_⟩
      rw [hp.1, td0_val, td_bad hnv hV hbad]
    · obtain ⟨n1, n2⟩ := not_or.mp hbad
      obtain ⟨n3, n4⟩ := not_or.mp n2
      obtain ⟨n5, n6⟩ := not_or.mp n4
      obtain ⟨dx1, dx2⟩ := rv_at (n := nv) (by omega) n1
      obtain ⟨dy1, dy2, dy3⟩ := bn_at (lo := 1) (hi := 8) (by omega) (in_at n5).1 (in_at n5).2
      obtain ⟨dz1, dz2, dz3⟩ := bn_at (lo := 0) (hi := 1) (by omega) (in_at n6).1 (in_at n6).2
      obtain ⟨i, hi, rfl⟩ : ∃ i : Nat, i < nv ∧ p0 = nI i := ⟨tN p0, dx2, dx1⟩
      obtain ⟨hh, ⟨hh1, hh8⟩, rfl⟩ : ∃ i : Nat, (1 ≤ i ∧ i ≤ 8) ∧ p1 = nI i := ⟨tN p1, ⟨by omega, by omega⟩, dy1⟩
      obtain ⟨wh, hwh, rfl⟩ : ∃ i : Nat, i < 2 ∧ p2 = nI i := ⟨tN p2, by omega, dz1⟩
      obtain ⟨ok, hr⟩ := hV i hi
      rw [tN_nI (by omega), hr.1] at n3
      have hp4 : (V i).p ≤ 4 := Nat.le_of_not_lt fun q9 => n3 ((nI_ltI (a := 4) (b := (V i).p) (by omega) (by have := ok.1; omega)).mpr q9)
      have G6 := at_fe (k := 6) A0 rfl (by rw [hlen]; decide) (hB 6 (by decide)).1
      have G7 := at_fe (k := 7) A0 rfl (by rw [hlen]; decide) (hB 7 (by decide)).1
      have G12 := at_fe (k := 12) A0 rfl (by rw [hlen]; decide) (hB 12 (by decide)).1
      have G13 := at_fe (k := 13) A0 rfl (by rw [hlen]; decide) (hB 13 (by decide)).1
      have G14 := at_fe (k := 14) A0 rfl (by rw [hlen]; decide) (hB 14 (by decide)).1
      have G15 := at_fe (k := 15) A0 rfl (by rw [hlen]; decide) (hB 15 (by decide)).1
      have G16 := at_fe (k := 16) A0 rfl (by rw [hlen]; decide) (hB 16 (by decide)).1
      have G17 := at_fe (k := 17) A0 rfl (by rw [hlen]; decide) (hB 17 (by decide)).1
      have t6 : Γ (B 6) = 62 := (hB.tag hT tm (k := 6) (by decide)).1
      have t7 : Γ (B 7) = 63 := (hB.tag hT tm (k := 7) (by decide)).1
      have t12 : Γ (B 12) = 66 := (hB.tag hT tm (k := 12) (by decide)).1
      have t13 : Γ (B 13) = 122 := (hB.tag hT tm (k := 13) (by decide)).1
      have t14 : Γ (B 14) = 67 := (hB.tag hT tm (k := 14) (by decide)).1
      have t15 : Γ (B 15) = 123 := (hB.tag hT tm (k := 15) (by decide)).1
      have t16 : Γ (B 16) = 68 := (hB.tag hT tm (k := 16) (by decide)).1
      have t17 : Γ (B 17) = 69 := (hB.tag hT tm (k := 17) (by decide)).1
      obtain ⟨w49, G49, a49⟩ := hv.get (k := 49) rfl
      obtain ⟨b49, rfl, t49, -⟩ := avi_ref rfl a49
      have t49 : Γ b49 = 86 := t49
      obtain ⟨cC, B49, -⟩ := h_ints (Or.inr (Or.inl rfl)) hT (by rw [t49]; decide) ((congrArg TS0.1 t49).trans rfl)
      obtain ⟨w50, G50, a50⟩ := hv.get (k := 50) rfl
      obtain ⟨b50, rfl, t50, -⟩ := avi_ref rfl a50
      have t50 : Γ b50 = 126 := t50
      obtain ⟨cX, B50, -⟩ := h_ints (Or.inr (Or.inl rfl)) hT (by rw [t50]; decide) ((congrArg TS0.1 t50).trans rfl)
      obtain ⟨w51, G51, a51⟩ := hv.get (k := 51) rfl
      obtain ⟨b51, rfl, t51, -⟩ := avi_ref rfl a51
      have t51 : Γ b51 = 87 := t51
      obtain ⟨tC, B51, -⟩ := h_ints (Or.inr (Or.inl rfl)) hT (by rw [t51]; decide) ((congrArg TS0.1 t51).trans rfl)
      have tg : [Γ m0, Γ (B 6), Γ (B 7), Γ (B 12), Γ (B 13), Γ (B 14), Γ (B 15), Γ (B 16), Γ (B 17), Γ b49, Γ b50, Γ b51] = [60, 62, 63, 66, 122, 67, 123, 68, 69, 86, 126, 87] := by rw [tm, t6, t7, t12, t13, t14, t15, t16, t17, t49, t50, t51]
      refine ⟨3, _, _, by decide, K_X12_trade1 l g m0 ws nv (B 6) (F 6) (B 7) (F 7) (B 12) (F 12) (B 13) (F 13) (B 14) (F 14) (B 15) (F 15) (B 16) (F 16) (B 17) (F 17) b49 cC b50 cX b51 tC (V i).lc (V i).p i hh wh hlen F18 G6 G7 G12 G13 G14 G15 G16 G17 G49 G50 G51 hnv hi ok.2.1 hr.2.1 hp4 hr.1 hh1 hh8 hwh, vaP_cons A0 (vaP_cons (hB 6 (by decide)).2 (vaP_cons (hB 7 (by decide)).2 (vaP_cons (hB 12 (by decide)).2 (vaP_cons (hB 13 (by decide)).2 (vaP_cons (hB 14 (by decide)).2 (vaP_cons (hB 15 (by decide)).2 (vaP_cons (hB 16 (by decide)).2 (vaP_cons (hB 17 (by decide)).2 (vaP_cons B49 (vaP_cons B50 (vaP_cons B51 vaP_nil))))))))))), D_tags (tl := [60, 62, 63, 66, 122, 67, 123, 68, 69, 86, 126, 87]) tg (by decide) (by decide), fun x u H1 hp hP hz hk hT1 hun => ?_⟩
      rw [hp.1, vAns_ok hnv hi, td_refM ok (owb_of hT tm hB hV hnv i hi) hr hp4 hh1 hh8 hwh]

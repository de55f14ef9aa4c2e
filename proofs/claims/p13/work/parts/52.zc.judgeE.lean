theorem row_nn {g : GG} {Γ : Nat → Nat} {H : Heap} {q t n lo hi : Nat} {f : Nat → Int32} (hT : HT g TS0 Γ H) (hq : Γ q = t) (hA : AT g 1 n q f H) (ht : TS0.1 t = .inr (1, n, (0, .ofNat lo, .ofNat hi))) (h31 : t ≠ 0 ∧ hi < 2 ^ 31) : ∀ j : Nat, j < n → f j = nI (tN (f j)) ∧ tN (f j) ≤ hi := fun j hj => by
  obtain ⟨f', h1, h2⟩ := h_ints (Or.inr (Or.inl rfl)) hT (by rw [hq]; exact h31.1) ((congrArg TS0.1 hq).trans ht)
  have h3 := (AT_fun hA h1 hj).2
  obtain ⟨k, h4, -, h5⟩ := avi_nn (h2 j hj)
  rw [h3]
  obtain ⟨q1, q2⟩ := tN_of (k := k) (by have := h31.2; omega) h4
  exact ⟨q1, by rw [q2]; exact h5⟩

set_option maxHeartbeats 8000000 in
theorem E11_unlawfulP {l : Launch} {g : GG} {Γ : Nat → Nat} {x0 n nv np : Nat} {fb : Nat → Int32} {V : Nat → VV} {P : Nat → PP} (hU : UQ TS0 Γ) (hnv : nv ≤ 10) (hnp : np ≤ 12) (hZ : PLX nv V np P) (tx : Γ x0 = 1) (p0 : Int32) : EX l g yX11_unlawful cX11_unlawful 4 (some .int) pX11_unlawful_0 Γ [.ref x0, .int p0] (fun H => RC1 g x0 n fb nv np H ∧ RCV g x0 nv V H ∧ RCP g x0 np P H) (fun _ v _ => v = .int (ulA np V P p0)) :=
  EX_of (SX11_unlawful_0 l g) hU ⟨av_ref tx (by decide), avi_top _, trivial⟩ rfl fun H hT hR => by
    obtain ⟨hR, hRV, hRP⟩ := hR
    obtain ⟨va, pa, fA, fB, k1, k9, k2, k11, k13, k14, k15⟩ := hRP
    obtain ⟨t0, tq, va'', pa', sp, fA'', fB', ⟨e0, eq, ea, ep, es⟩, h0, h1, h2, h3, h4, h5, h6, h7, h8, h9, h10, h11, h12, h13⟩ := hR.tags hT tx
    cases FE_fun k1 h1
    cases FE_fun k2 h2
    obtain ⟨c3, c4, c5, c6, c7, c8, c9, cc, A0⟩ := DV1 hT tx h0 h1 h2 h3 h4 h5
    obtain ⟨va', fA', sp', g1, g9, g10, -⟩ := hRV
    cases FE_fun k1 g1
    rcases vin_cases (n := np) (by omega) p0 with hb | ⟨i, hi, rfl⟩
    · have tg : [Γ x0, Γ pa] = [1, 21] := by rw [tx, ep]
      refine ⟨1, _, _, by decide, K_X11_unlawful0 l g x0 t0 va pa c3 c4 c5 c6 c7 c8 c9 sp nv np cc fB p0 hb, vaP_cons A0 (vaP_cons k11 vaP_nil), D_tags (tl := [1, 21]) tg (by decide) (by decide), fun x u H1 hp hP hz hk hT1 hun => ?_⟩
      rw [hp.1, ulA_no hb]
      rfl
    · obtain ⟨q, v, hB, hA, hPC⟩ := k14 i hi
      obtain ⟨hv, hw⟩ := hZ.1 i hi
      obtain ⟨okV, v', hv', hVC⟩ := g10 (P i).v hv
      cases (RFA_fun k9 g9 (by omega) hA).symm.trans hv'
      have tq4 := RCP.tag hT tx k2 k11 (by omega) hB
      obtain ⟨s0, s1, s2, s3, s4, s5⟩ := hPC.tags hT tq4
      obtain ⟨y1, y2, y3, y4, y5, y6, y7, y8, y9, y10, y11⟩ := hVC.tags hT s0
      obtain ⟨gl, v15, hP0⟩ := hVC
      have AQ := hPC 0 _ rfl
      have s6 := (ref_tag (k := 7) (u := 36) hT tq4 (by decide) rfl rfl (FE_at (k := 7) AQ rfl (by decide) rfl)).1
      have s7 := (ref_tag (k := 8) (u := 37) hT tq4 (by decide) rfl rfl (FE_at (k := 8) AQ rfl (by decide) rfl)).1
      obtain ⟨W, B6⟩ := ints_of hT s6 (by decide) rfl
      obtain ⟨R, B7⟩ := ints_of hT s7 (by decide) rfl
      have hH : ∀ j : Nat, j < 40 → (P i).h j = nI (tN ((P i).h j)) ∧ tN ((P i).h j) ≤ 24 := row_nn hT s1 (show AT g 1 40 (q + 1) (P i).h H from hPC 1 _ rfl) rfl (by omega)
      have hCa : ∀ j : Nat, j < 40 → (P i).a j = nI (tN ((P i).a j)) ∧ tN ((P i).a j) < 7 := fun j hj => by
        obtain ⟨q1, q2⟩ := row_nn (hi := 6) hT s3 (show AT g 1 40 (q + 3) (P i).a H from hPC 3 _ rfl) rfl (by omega) j hj
        exact ⟨q1, by omega⟩
      have tg : [Γ x0, Γ pa, Γ q, Γ (q + 1), Γ (q + 2), Γ (q + 3), Γ (q + 4), Γ (q + 5), Γ (q + 6), Γ (q + 7), Γ v, Γ (v + 8)] = [1, 21, 4, 31, 32, 33, 34, 35, 36, 37, 3, 26] := by rw [tx, ep, tq4, s1, s2, s3, s4, s5, s6, s7, s0, y8]
      refine ⟨3, _, _, by decide, K_X11_unlawful1 l g x0 t0 va pa c3 c4 c5 c6 c7 c8 c9 sp nv np cc fB i q (q + 1) (q + 2) (q + 3) (q + 4) (q + 5) (q + 6) (q + 7) (P i).c v (v + 1) (v + 2) (v + 3) (v + 4) (v + 5) (v + 6) (v + 7) (v + 8) (v + 9) (v + 10) (v + 11) v15 (nI (V (P i).v).p) (nI (V (P i).v).lc) (V (P i).v).de gl (P i).h (P i).k (P i).a (P i).b (P i).o W R (kx (V (P i).v)) hi hnp hB hw.1 hw.2.1 hH hCa, vaP_cons A0 (vaP_cons k11 (vaP_cons (hPC 0 _ rfl) (vaP_cons (hPC 1 _ rfl) (vaP_cons (hPC 2 _ rfl) (vaP_cons (hPC 3 _ rfl) (vaP_cons (hPC 4 _ rfl) (vaP_cons (hPC 5 _ rfl) (vaP_cons B6 (vaP_cons B7 (vaP_cons (hP0 0 _ rfl) (vaP_cons (hP0 8 _ rfl) vaP_nil))))))))))), D_tags (tl := [1, 21, 4, 31, 32, 33, 34, 35, 36, 37, 3, 26]) tg (by decide) (by decide), fun x u H1 hp hP hz hk hT1 hun => ?_⟩
      rw [hp.1, ul_cls hnp hi hw (hZ.2.1 i hi)]

theorem plan_rows_ok {nv np : Nat} {V : Nat → VV} {P : Nat → PP} {F G : Nat → Nat → Int32} (hnv : nv ≤ 10) (hnp : np ≤ 12) (hV : RPW nv V F) (hZ : PLW nv V np P) (hG : RPP np P G) : (∀ j : Nat, j < np → G 21 j = nI (tN (G 21 j)) ∧ tN (G 21 j) < 10) ∧ (∀ j : Nat, j < np → G 22 j = nI (tN (G 22 j)) ∧ tN (G 22 j) ≤ 40) ∧ (∀ j : Nat, j < np → F 6 (tN (G 21 j)) = nI (tN (F 6 (tN (G 21 j)))) ∧ tN (F 6 (tN (G 21 j))) ≤ 7) ∧ (∀ j : Nat, j < np → F 7 (tN (G 21 j)) = nI (tN (F 7 (tN (G 21 j)))) ∧ tN (F 7 (tN (G 21 j))) ≤ 12) ∧ (∀ j : Nat, j < np → ∀ k : Nat, k < tN (G 22 j) → G 25 (40 * j + k) = nI (tN (G 25 (40 * j + k))) ∧ tN (G 25 (40 * j + k)) < 7) ∧ ∀ j : Nat, j < np → ∀ k : Nat, k < tN (G 22 j) → ¬ G 24 (40 * j + k) = 3 → G 26 (40 * j + k) = nI (tN (G 26 (40 * j + k))) ∧ tN (G 26 (40 * j + k)) < 7 := by
  have ev : ∀ j : Nat, j < np → tN (G 21 j) = (P j).v := fun j hj => by
    have := (hZ j hj).1
    rw [(hG j hj).1, tN_nI (by omega)]
  have ec : ∀ j : Nat, j < np → tN (G 22 j) = (P j).c := fun j hj => by
    have := (hZ j hj).2.1
    rw [(hG j hj).2.1, tN_nI (by omega)]
  refine ⟨fun j hj => ?_, fun j hj => ?_, fun j hj => ?_, fun j hj => ?_, fun j hj k hk => ?_, fun j hj k hk h3 => ?_⟩
  · have := (hZ j hj).1
    rw [ev j hj]
    exact ⟨(hG j hj).1, by omega⟩
  · rw [ec j hj]
    exact ⟨(hG j hj).2.1, (hZ j hj).2.1⟩
  · rw [ev j hj]
    exact hV.pe _ (hZ j hj).1
  · rw [ev j hj]
    exact hV.lc _ (hZ j hj).1
  · rw [ec j hj] at hk
    have hp := (hV _ (hZ j hj).1).1.1
    rw [((hG j hj).2.2 k hk).2.2.1]
    obtain ⟨a, b⟩ := hp_at (n := (V (P j).v).p) (by omega) ((hZ j hj).2.2.2 k hk).2.2.1
    exact ⟨a, by omega⟩
  · rw [ec j hj] at hk
    have hp := (hV _ (hZ j hj).1).1.1
    rw [((hG j hj).2.2 k hk).2.1] at h3
    rw [((hG j hj).2.2 k hk).2.2.2]
    obtain ⟨_, ⟨a, b⟩, _⟩ := hc_at (n := (V (P j).v).p) (by omega) (((hZ j hj).2.2.2 k hk).2.2.2 h3)
    exact ⟨a, by omega⟩

set_option maxHeartbeats 8000000 in
theorem E12_unlawfulP {l : Launch} {g : GG} {Γ : Nat → Nat} {m0 n nv np : Nat} {fb : Nat → Int32} {V : Nat → VV} {P : Nat → PP} (hU : UQ TS0 Γ) (hnv : nv ≤ 10) (hnp : np ≤ 12) (hZ : PLX nv V np P) (tm : Γ m0 = 60) (p0 : Int32) : EX l g yX12_unlawful cX12_unlawful 3 (some .int) pX12_unlawful_0 Γ [.ref m0, .int p0] (fun H => RR1 g m0 n fb nv np H ∧ RRV g m0 nv V H ∧ RRP g m0 np P H ∧ RMM g m0 H) (fun _ v _ => v = .int (ulA np V P p0)) :=
  EX_of (SX12_unlawful_0 l g) hU ⟨av_ref tm (by decide), avi_top _, trivial⟩ rfl fun H hT hR => by
    obtain ⟨hR, ⟨B, F, hB, hV⟩, ⟨C, G, hC, hG⟩, M19, M20⟩ := hR
    obtain ⟨tr, er, h1, h2, h3, h4, h5⟩ := hR.tags hT tm
    obtain ⟨ws, A0, hv⟩ := h_obj hT (by rw [tm]; decide) ((congrArg TS0.1 tm).trans rfl)
    have hlen := KV_len (KV_of hv)
    have F27 := at_fe (k := 27) A0 rfl (by rw [hlen]; decide) h4
    have F19 := at_fe (k := 19) A0 rfl (by rw [hlen]; decide) M19
    have F20 := at_fe (k := 20) A0 rfl (by rw [hlen]; decide) M20
    have G6 := at_fe (k := 6) A0 rfl (by rw [hlen]; decide) (hB 6 (by decide)).1
    have G7 := at_fe (k := 7) A0 rfl (by rw [hlen]; decide) (hB 7 (by decide)).1
    have G12 := at_fe (k := 12) A0 rfl (by rw [hlen]; decide) (hB 12 (by decide)).1
    have G13 := at_fe (k := 13) A0 rfl (by rw [hlen]; decide) (hB 13 (by decide)).1
    have G14 := at_fe (k := 14) A0 rfl (by rw [hlen]; decide) (hB 14 (by decide)).1
    have G15 := at_fe (k := 15) A0 rfl (by rw [hlen]; decide) (hB 15 (by decide)).1
    have G16 := at_fe (k := 16) A0 rfl (by rw [hlen]; decide) (hB 16 (by decide)).1
    have G17 := at_fe (k := 17) A0 rfl (by rw [hlen]; decide) (hB 17 (by decide)).1
    have t6 := (hB.tag hT tm (k := 6) (by decide)).1
    have t7 := (hB.tag hT tm (k := 7) (by decide)).1
    have t12 := (hB.tag hT tm (k := 12) (by decide)).1
    have t13 := (hB.tag hT tm (k := 13) (by decide)).1
    have t14 := (hB.tag hT tm (k := 14) (by decide)).1
    have t15 := (hB.tag hT tm (k := 15) (by decide)).1
    have t16 := (hB.tag hT tm (k := 16) (by decide)).1
    have t17 := (hB.tag hT tm (k := 17) (by decide)).1
    have G21 := at_fe (k := 21) A0 rfl (by rw [hlen]; decide) (hC 21 (by decide)).1
    have G22 := at_fe (k := 22) A0 rfl (by rw [hlen]; decide) (hC 22 (by decide)).1
    have G23 := at_fe (k := 23) A0 rfl (by rw [hlen]; decide) (hC 23 (by decide)).1
    have G24 := at_fe (k := 24) A0 rfl (by rw [hlen]; decide) (hC 24 (by decide)).1
    have G25 := at_fe (k := 25) A0 rfl (by rw [hlen]; decide) (hC 25 (by decide)).1
    have G26 := at_fe (k := 26) A0 rfl (by rw [hlen]; decide) (hC 26 (by decide)).1
    have t21 := (hC.tag hT tm (k := 21) (by decide)).1
    have t22 := (hC.tag hT tm (k := 22) (by decide)).1
    have t23 := (hC.tag hT tm (k := 23) (by decide)).1
    have t24 := (hC.tag hT tm (k := 24) (by decide)).1
    have t25 := (hC.tag hT tm (k := 25) (by decide)).1
    have t26 := (hC.tag hT tm (k := 26) (by decide)).1
    obtain ⟨w28, G28, a28⟩ := hv.get (k := 28) rfl
    obtain ⟨b28, rfl, t28, -⟩ := avi_ref rfl a28
    have t28 : Γ b28 = 76 := t28
    obtain ⟨w29, G29, a29⟩ := hv.get (k := 29) rfl
    obtain ⟨b29, rfl, t29, -⟩ := avi_ref rfl a29
    have t29 : Γ b29 = 77 := t29
    obtain ⟨W, B28⟩ := ints_of hT t28 (by decide) rfl
    obtain ⟨R, B29⟩ := ints_of hT t29 (by decide) rfl
    have tg : [Γ m0, Γ (B 6), Γ (B 7), Γ (B 12), Γ (B 13), Γ (B 14), Γ (B 15), Γ (B 16), Γ (B 17), Γ (C 21), Γ (C 22), Γ (C 23), Γ (C 24), Γ (C 25), Γ (C 26), Γ b28, Γ b29] = [60, 62, 63, 66, 122, 67, 123, 68, 69, 70, 71, 72, 73, 74, 75, 76, 77] := by rw [tm, t6, t7, t12, t13, t14, t15, t16, t17, t21, t22, t23, t24, t25, t26, t28, t29]; rfl
    obtain ⟨e1, e2, e3, e4, e5, e6⟩ := plan_rows_ok hnv hnp hV hZ.1 hG
    refine ⟨4, _, _, by decide, K_X12_unlawful l g m0 ws np (B 6) (F 6) (B 7) (F 7) (B 12) (F 12) (B 13) (F 13) (B 14) (F 14) (B 15) (F 15) (B 16) (F 16) (B 17) (F 17) (C 21) (G 21) (C 22) (G 22) (C 23) (G 23) (C 24) (G 24) (C 25) (G 25) (C 26) (G 26) b28 W b29 R p0 hlen F27 G6 G7 G12 G13 G14 G15 G16 G17 G21 G22 G23 G24 G25 G26 G28 G29 F19 F20 hnp e1 e2 e3 e4 e5 e6, vaP_cons A0 (vaP_cons (hB 6 (by decide)).2 (vaP_cons (hB 7 (by decide)).2 (vaP_cons (hB 12 (by decide)).2 (vaP_cons (hB 13 (by decide)).2 (vaP_cons (hB 14 (by decide)).2 (vaP_cons (hB 15 (by decide)).2 (vaP_cons (hB 16 (by decide)).2 (vaP_cons (hB 17 (by decide)).2 (vaP_cons (hC 21 (by decide)).2 (vaP_cons (hC 22 (by decide)).2 (vaP_cons (hC 23 (by decide)).2 (vaP_cons (hC 24 (by decide)).2 (vaP_cons (hC 25 (by decide)).2 (vaP_cons (hC 26 (by decide)).2 (vaP_cons B28 (vaP_cons B29 vaP_nil)))))))))))))))), D_tags (tl := [60, 62, 63, 66, 122, 67, 123, 68, 69, 70, 71, 72, 73, 74, 75, 76, 77]) tg (by decide) (by decide), fun x u H1 hp hP hz hk hT1 hun => ?_⟩
    rw [hp.1, ul_ref hnv hnp hV (owb_of hT tm hB hV hnv) hZ hG]

/-! the rows of what is known, and of what was told once: where they stand -/
def RY0 (g : GG) (x0 : Nat) (H : Heap) : Prop := ∃ c3 yk yt : Nat, FE g x0 11 3 H (.ref c3) ∧ FE g c3 1 0 H (.ref yk) ∧ FE g c3 1 1 H (.ref yt) ∧ ¬ yk = yt
theorem RY0.tag {g : GG} {Γ : Nat → Nat} {H : Heap} {x0 c3 : Nat} (hT : HT g TS0 Γ H) (tx : Γ x0 = 1) (h : FE g x0 11 3 H (.ref c3)) : Γ c3 = 5 := (ref_tag (k := 3) (u := 5) hT tx (by decide) rfl rfl h).1
theorem RY0.keep {g : GG} {Γ : Nat → Nat} {H H1 : Heap} {x0 : Nat} {mods : List (Nat × Nat)} (h : RY0 g x0 H) (hT : HT g TS0 Γ H) (tx : Γ x0 = 1) (hu : Un g TS0 Γ mods H H1) (hm : mdn [(1, 3), (5, 0), (5, 1)] mods = true) : RY0 g x0 H1 := by
  obtain ⟨c3, yk, yt, h1, h2, h3, h4⟩ := h
  have t5 := RY0.tag hT tx h1
  exact ⟨c3, yk, yt, hu.fld tx (by decide) rfl (mdn_at hm (by decide)) h1, hu.fld t5 (by decide) rfl (mdn_at hm (by decide)) h2, hu.fld t5 (by decide) rfl (mdn_at hm (by decide)) h3, h4⟩
theorem RY0.same {g : GG} {H H1 : Heap} {x0 c3 yk yt : Nat} (h1 : FE g x0 11 3 H1 (.ref c3)) (h2 : FE g c3 1 0 H (.ref yk)) (h3 : FE g c3 1 1 H (.ref yt)) (h4 : ¬ yk = yt) (e : H1[c3]? = H[c3]?) : RY0 g x0 H1 := ⟨c3, yk, yt, h1, FE_kept h2 e, FE_kept h3 e, h4⟩
/-- the class's spreading: the powers of three, the states by their places; rows that stand apart -/
def PWT (pw : Nat → Int32) : Prop := ∀ j : Nat, j < 128 → pw j = nI (pw3 7 j)
def SAT (sa : Nat → Int32) : Prop := ∀ x y : Nat, x < 128 → y < 128 → x &&& y = 0 → sa (2 * pw3 7 x + pw3 7 y) = nI x ||| (nI y <<< ((7 : Int32) &&& 31))
def PWX (g : GG) (x0 : Nat) (H : Heap) : Prop := ∃ z e1 e2 e3 e4 e5 e6 : Nat, ∃ pw sa : Nat → Int32, FE g x0 11 4 H (.ref z) ∧ FE g z 7 6 H (.ref e1) ∧ FE g z 7 7 H (.ref e2) ∧ FE g z 7 8 H (.ref e3) ∧ FE g z 7 9 H (.ref e4) ∧ FE g z 7 10 H (.ref e5) ∧ FE g z 7 11 H (.ref e6) ∧ AT g 1 128 e1 pw H ∧ AT g 1 2187 e2 sa H ∧ PWT pw ∧ SAT sa ∧ ¬ e3 = e4 ∧ ¬ e5 = e6
theorem PWX.tag {g : GG} {Γ : Nat → Nat} {H : Heap} {x0 z : Nat} (hT : HT g TS0 Γ H) (tx : Γ x0 = 1) (h : FE g x0 11 4 H (.ref z)) : Γ z = 6 := (ref_tag (k := 4) (u := 6) hT tx (by decide) rfl rfl h).1
theorem PWX.tag1 {g : GG} {Γ : Nat → Nat} {H : Heap} {z e1 : Nat} (hT : HT g TS0 Γ H) (tz : Γ z = 6) (h : FE g z 7 6 H (.ref e1)) : Γ e1 = 40 := (ref_tag (k := 6) (u := 40) hT tz (by decide) rfl rfl h).1
theorem PWX.tag2 {g : GG} {Γ : Nat → Nat} {H : Heap} {z e2 : Nat} (hT : HT g TS0 Γ H) (tz : Γ z = 6) (h : FE g z 7 7 H (.ref e2)) : Γ e2 = 41 := (ref_tag (k := 7) (u := 41) hT tz (by decide) rfl rfl h).1
theorem PWX.same {g : GG} {H H1 : Heap} {x0 z e1 e2 e3 e4 e5 e6 : Nat} {pw sa : Nat → Int32} (h0 : FE g x0 11 4 H1 (.ref z)) (h : FE g z 7 6 H (.ref e1) ∧ FE g z 7 7 H (.ref e2) ∧ FE g z 7 8 H (.ref e3) ∧ FE g z 7 9 H (.ref e4) ∧ FE g z 7 10 H (.ref e5) ∧ FE g z 7 11 H (.ref e6) ∧ AT g 1 128 e1 pw H ∧ AT g 1 2187 e2 sa H ∧ PWT pw ∧ SAT sa ∧ ¬ e3 = e4 ∧ ¬ e5 = e6) (ez : H1[z]? = H[z]?) (e : H1[e1]? = H[e1]?) (e' : H1[e2]? = H[e2]?) : PWX g x0 H1 := by
  obtain ⟨a1, b1, a2, a3, a4, a5, a6, b2, a7, b3, a8, a9⟩ := h
  exact ⟨z, e1, e2, e3, e4, e5, e6, pw, sa, h0, FE_kept a1 ez, FE_kept b1 ez, FE_kept a2 ez, FE_kept a3 ez, FE_kept a4 ez, FE_kept a5 ez, va_at.kept a6 e, va_at.kept b2 e', a7, b3, a8, a9⟩
theorem PWX.keep {g : GG} {Γ : Nat → Nat} {H H1 : Heap} {x0 : Nat} {mods : List (Nat × Nat)} (h : PWX g x0 H) (hT : HT g TS0 Γ H) (tx : Γ x0 = 1) (hu : Un g TS0 Γ mods H H1) (hm : mdn [(1, 4), (6, 6), (6, 7), (6, 8), (6, 9), (6, 10), (6, 11), (40, 0), (41, 0)] mods = true) : PWX g x0 H1 := by
  obtain ⟨z, e1, e2, e3, e4, e5, e6, pw, sa, h0, a1, b1, a2, a3, a4, a5, a6, b2, a7, b3, a8, a9⟩ := h
  have tz := PWX.tag hT tx h0
  have t1 := PWX.tag1 hT tz a1
  have t2 := PWX.tag2 hT tz b1
  exact ⟨z, e1, e2, e3, e4, e5, e6, pw, sa, hu.fld tx (by decide) rfl (mdn_at hm (by decide)) h0, hu.fld tz (by decide) rfl (mdn_at hm (by decide)) a1, hu.fld tz (by decide) rfl (mdn_at hm (by decide)) b1, hu.fld tz (by decide) rfl (mdn_at hm (by decide)) a2, hu.fld tz (by decide) rfl (mdn_at hm (by decide)) a3, hu.fld tz (by decide) rfl (mdn_at hm (by decide)) a4, hu.fld tz (by decide) rfl (mdn_at hm (by decide)) a5, va_at.kept a6 (hu.arr t1 (by decide) rfl (mdn_at hm (by decide))), va_at.kept b2 (hu.arr t2 (by decide) rfl (mdn_at hm (by decide))), a7, b3, a8, a9⟩
theorem mdn_sub {l l2 mods : List (Nat × Nat)} (h : mdn l2 mods = true) (hs : ∀ q ∈ l, q ∈ l2) : mdn l mods = true := List.all_eq_true.mpr fun q hq => List.all_eq_true.mp h q (hs q hq)
def RYK (g : GG) (x0 : Nat) (H : Heap) : Prop := RY0 g x0 H ∧ PWX g x0 H
theorem RYK.keep {g : GG} {Γ : Nat → Nat} {H H1 : Heap} {x0 : Nat} {mods : List (Nat × Nat)} (h : RYK g x0 H) (hT : HT g TS0 Γ H) (tx : Γ x0 = 1) (hu : Un g TS0 Γ mods H H1) (hm : mdn [(1, 3), (5, 0), (5, 1), (1, 4), (6, 6), (6, 7), (6, 8), (6, 9), (6, 10), (6, 11), (40, 0), (41, 0)] mods = true) : RYK g x0 H1 := ⟨h.1.keep hT tx hu (mdn_sub hm (by decide)), h.2.keep hT tx hu (mdn_sub hm (by decide))⟩
section
variable {l : Launch} {g : GG} {Γ : Nat → Nat} {x0 m0 n nv np : Nat} {fb : Nat → Int32} {V : Nat → VV} {P : Nat → PP}
set_option maxHeartbeats 8000000 in
theorem E11_planY (hU : UQ TS0 Γ) (hnv : nv ≤ 10) (hnp : np ≤ 12) (hZ : PLW nv V np P) (tx : Γ x0 = 1) (p0 : Int32) : EG l g yX11_plan cX11_plan 3 3 8 289 x0 m0 Γ [.ref x0, .int p0] (fun H => RC1 g x0 n fb nv np H ∧ RCV g x0 nv V H ∧ RCP g x0 np P H ∧ RYK g x0 H) (fun H _ H1 => RYK g x0 H1) :=
  EG_ofD (GX11_plan l g x0 m0 p0) hU fun H hT hLF hR => by
    obtain ⟨hR, hRV, hRP, hRY⟩ := hR
    obtain ⟨va, pa, fA, fB, k1, k9, k2, k11, k13, k14, k15⟩ := hRP
    obtain ⟨t0, tq, va'', pa', sp, fA'', fB', ⟨e0, eq, ea, ep, es⟩, h0, h1, h2, h3, h4, h5, h6, h7, h8, h9, h10, h11, h12, h13⟩ := hR.tags hT tx
    cases FE_fun k1 h1
    cases FE_fun k2 h2
    obtain ⟨c3, c4, c5, c6, c7, c8, c9, cc, A0⟩ := DV1 hT tx h0 h1 h2 h3 h4 h5
    obtain ⟨c3', yk, yt, r1, r2, r3, r4⟩ := hRY.1
    obtain ⟨z7, e71, e72, e73, e74, e75, e76, pw7, sa7, w70, w71⟩ := hRY.2
    cases FE_fun r1 (FE_at (k := 3) A0 rfl (by decide) rfl)
    have t5 := RY0.tag hT tx r1
    have t67 := PWX.tag hT tx w70
    have t407 := PWX.tag1 hT t67 w71.1
    have t417 := PWX.tag2 hT t67 w71.2.1
    cases FE_fun w70 (FE_at (k := 4) A0 rfl (by decide) rfl)
    cases FE_fun k13 (FE_at (k := 13) A0 rfl (by decide) rfl)
    have lt : ∀ {q t : Nat}, Γ q = t → t ≠ 0 → q < H.size := fun h h0 => hT.lt (by rw [h]; exact h0)
    obtain ⟨va', fA', sp', g1, g9, g10, -⟩ := hRV
    cases FE_fun k1 g1
    rcases vin_cases (n := nv) (by omega) p0 with hb | ⟨i, hi, rfl⟩
    · have tg : [Γ x0, Γ va] = [1, 20] := by rw [tx, ea]
      refine ⟨0, 0, _, _, MetI.grow (K_X11_plan0 l g x0 t0 va pa c3 c4 c5 c6 c7 c8 c9 sp nv np (nI (psum P np)) fA p0 hb) (by decide) (Nat.zero_le _) (Nat.zero_le _) _, vaP_cons A0 (vaP_cons k9 vaP_nil), D_tags (tl := [1, 20]) tg (by decide) (by decide), fun x u H1 hp hP hD hz hk => ?_⟩
      obtain ⟨hx, rfl⟩ := hp
      exact ⟨RY0.same (FE_at (k := 3) (hP 0 _ rfl) rfl (by decide) rfl) r2 r3 r4 (hk _ (lt t5 (by decide)) (nin_tag (tl := [1, 20]) tg t5 rfl (lt t5 (by decide)))), PWX.same (FE_at (k := 4) (hP 0 _ rfl) rfl (by decide) rfl) w71 (hk _ (lt t67 (by decide)) (nin_tag (tl := [1, 20]) tg t67 rfl (lt t67 (by decide)))) (hk _ (lt t407 (by decide)) (nin_tag (tl := [1, 20]) tg t407 rfl (lt t407 (by decide)))) (hk _ (lt t417 (by decide)) (nin_tag (tl := [1, 20]) tg t417 rfl (lt t417 (by decide))))⟩
    · by_cases h12' : np = 12
      · obtain ⟨-, v, hv, -⟩ := g10 i hi
        have hv2 := RFA_fun g9 k9 (by omega) hv
        have tg : [Γ x0, Γ va] = [1, 20] := by rw [tx, ea]
        refine ⟨0, 0, _, _, MetI.grow (C_X11_plan0b l g x0 t0 va pa c3 c4 c5 c6 c7 c8 c9 sp nv np (nI (psum P np)) fA i v hi hnv hv2 h12') (by decide) (Nat.zero_le _) (Nat.zero_le _) _, vaP_cons A0 (vaP_cons k9 vaP_nil), D_tags (tl := [1, 20]) tg (by decide) (by decide), fun x u H1 hp hP hD hz hk => ?_⟩
        obtain ⟨hx, rfl⟩ := hp
        exact ⟨RY0.same (FE_at (k := 3) (hP 0 _ rfl) rfl (by decide) rfl) r2 r3 r4 (hk _ (lt t5 (by decide)) (nin_tag (tl := [1, 20]) tg t5 rfl (lt t5 (by decide)))), PWX.same (FE_at (k := 4) (hP 0 _ rfl) rfl (by decide) rfl) w71 (hk _ (lt t67 (by decide)) (nin_tag (tl := [1, 20]) tg t67 rfl (lt t67 (by decide)))) (hk _ (lt t407 (by decide)) (nin_tag (tl := [1, 20]) tg t407 rfl (lt t407 (by decide)))) (hk _ (lt t417 (by decide)) (nin_tag (tl := [1, 20]) tg t417 rfl (lt t417 (by decide))))⟩
      · obtain ⟨-, v, hv, -⟩ := g10 i hi
        have hv2 := RFA_fun g9 k9 (by omega) hv
        have tg : [Γ x0, Γ va, Γ pa] = [1, 20, 21] := by rw [tx, ea, ep]
        refine ⟨8, 289, _, _, MetI.grow (C_X11_plan1 l g x0 t0 va pa c3 c4 c5 c6 c7 c8 c9 sp nv np (nI (psum P np)) fA fB i v hi hnv hv2 (by omega)) (by decide) (Nat.le_refl _) (Nat.le_refl _) _, vaP_cons A0 (vaP_cons k9 (vaP_cons k11 vaP_nil)), D_tags (tl := [1, 20, 21]) tg (by decide) (by decide), fun x u H1 hp hP hD hz hk => ?_⟩
        obtain ⟨z, rfl, rfl⟩ := hp
        exact ⟨RY0.same (FE_at (k := 3) (hP 0 _ rfl) rfl (by decide) rfl) r2 r3 r4 (hk _ (lt t5 (by decide)) (nin_tag (tl := [1, 20, 21]) tg t5 rfl (lt t5 (by decide)))), PWX.same (FE_at (k := 4) (hP 0 _ rfl) rfl (by decide) rfl) w71 (hk _ (lt t67 (by decide)) (nin_tag (tl := [1, 20, 21]) tg t67 rfl (lt t67 (by decide)))) (hk _ (lt t407 (by decide)) (nin_tag (tl := [1, 20, 21]) tg t407 rfl (lt t407 (by decide)))) (hk _ (lt t417 (by decide)) (nin_tag (tl := [1, 20, 21]) tg t417 rfl (lt t417 (by decide))))⟩
set_option maxHeartbeats 8000000 in
theorem E11_valleyY (hn : n ≤ 400) (hU : UQ TS0 Γ) (hnv : nv ≤ 10) (hnp : np ≤ 12) (hZ : PLW nv V np P) (tx : Γ x0 = 1) : EG l g yX11_valley cX11_valley 1 9 13 380 x0 m0 Γ [.ref x0] (fun H => RC1 g x0 n fb nv np H ∧ RCV g x0 nv V H ∧ RCP g x0 np P H ∧ RYK g x0 H) (fun H v H1 => RYK g x0 H1) :=
  EG_of (GX11_valley l g x0 m0) hU fun H hT hLF hR => by
    obtain ⟨hR, -, hRP, hRY⟩ := hR
    obtain ⟨t0, tq, va, pa, sp, fA, fB, ⟨e0, eq, ea, ep, es⟩, h0, h1, h2, h3, h4, h5, h6, h7, h8, h9, h10, h11, h12, h13⟩ := hR.tags hT tx
    obtain ⟨c3, c4, c5, c6, c7, c8, c9, cc, A0⟩ := DV1 hT tx h0 h1 h2 h3 h4 h5
    obtain ⟨c3', yk, yt, r1, r2, r3, r4⟩ := hRY.1
    obtain ⟨z7, e71, e72, e73, e74, e75, e76, pw7, sa7, w70, w71⟩ := hRY.2
    cases FE_fun r1 (FE_at (k := 3) A0 rfl (by decide) rfl)
    have t5 := RY0.tag hT tx r1
    have t67 := PWX.tag hT tx w70
    have t407 := PWX.tag1 hT t67 w71.1
    have t417 := PWX.tag2 hT t67 w71.2.1
    cases FE_fun w70 (FE_at (k := 4) A0 rfl (by decide) rfl)
    obtain ⟨pl, A1⟩ := DVt hT e0 h6 h7
    obtain ⟨pe, lc, de, gl, v15, A3⟩ := spare_open hT es h13
    obtain ⟨s1, s2, s3, s4, s5, s6, s7, s8, s9, s10, s11⟩ := spare_tags hT es h13
    obtain ⟨g1, B1⟩ := ints_of hT s1 (by decide) rfl
    obtain ⟨g2, B2⟩ := ints_of hT s2 (by decide) rfl
    obtain ⟨g3, B3⟩ := ints_of hT s3 (by decide) rfl
    obtain ⟨L, B7⟩ := ints_of hT s7 (by decide) rfl
    obtain ⟨va', pa', fA', fB', k1, g9, k2, k11, k13, k14, k15⟩ := hRP
    cases FE_fun h1 k1
    cases FE_fun h2 k2
    cases FE_fun k13 (FE_at (k := 13) A0 rfl (by decide) rfl)
    have lt : ∀ {q t : Nat}, Γ q = t → t ≠ 0 → q < H.size := fun h h0 => hT.lt (by rw [h]; exact h0)
    by_cases h10' : nv = 10
    · have tg : ([(x0, .inr (11, [.ref t0, .ref va, .ref pa, .ref c3, .ref c4, .ref c5, .ref c6, .ref c7, .ref c8, .ref c9, .ref sp, .int (nI nv), .int (nI np), .int (nI (psum P np))]))] : va_W).map (fun w => Γ w.1) = [1] := by show [Γ x0] = _; rw [tx]
      refine ⟨0, 0, _, _, MetI.grow (C_X11_valleyF l g x0 t0 va pa c3 c4 c5 c6 c7 c8 c9 nv np (nI (psum P np)) sp h10') (Nat.zero_le _) (Nat.zero_le _) (Nat.zero_le _) _, vaP_cons A0 vaP_nil, D_tags tg (by decide) (by decide), fun x u H1 hp hP hz hk => ?_⟩
      obtain ⟨rfl, rfl⟩ := hp
      have Y0 := hP 0 _ rfl
      have kp : ∀ {q t : Nat}, Γ q = t → t ≠ 0 → ([1].any fun u => Nat.beq u t) = false → H1[q]? = H[q]? := fun {q t} h h0 h1 => hk q (lt h h0) (nin_tag tg h h1 (lt h h0))
      exact ⟨RY0.same (FE_at (k := 3) Y0 rfl (by decide) rfl) r2 r3 r4 (kp t5 (by decide) rfl), PWX.same (FE_at (k := 4) Y0 rfl (by decide) rfl) w71 (kp t67 (by decide) rfl) (kp t407 (by decide) rfl) (kp t417 (by decide) rfl)⟩
    · have hnv9 : nv < 10 := by omega
      by_cases hF : (rdx n (ub fb) L).1 = -1
      · have hL : lspF L := by
          obtain ⟨L2, e1, e2⟩ := (hT.2.1 rfl).1.1 (sp + 7) (Or.inr s7)
          exact fun j hj => by rw [(AT_fun B7 e1 hj).2]; exact e2 j hj
        obtain ⟨p, p1, p2, p3, -, y2, -, -, -, -, -, y8⟩ := (rdx_ok (f := ub fb) hn hL).2.resolve_left fun h => h.2.1 hF
        obtain ⟨k6, B4⟩ := ints_of hT s4 (by decide) rfl
        obtain ⟨k7, B5⟩ := ints_of hT s5 (by decide) rfl
        obtain ⟨k8, B6⟩ := ints_of hT s6 (by decide) rfl
        obtain ⟨K, B8⟩ := ints_of hT s8 (by decide) rfl
        obtain ⟨cdf, B9⟩ := ints_of hT s9 (by decide) rfl
        obtain ⟨k13, B11⟩ := ints_of hT s11 (by decide) rfl
        refine ⟨13, 380, _, _, MetI.grow (C_X11_valley1 l g x0 t0 va pa c3 c4 c5 c6 c7 c8 c9 nv np (nI (psum P np)) tq (ub fb) n pl sp (sp + 1) (sp + 2) (sp + 3) (sp + 4) (sp + 5) (sp + 6) (sp + 7) (sp + 8) (sp + 9) (sp + 10) (sp + 11) v15 pe lc de gl g1 g2 g3 L fA' k6 k7 k8 K k13 p hn hnv9 hF y2 p2 y8) (by decide) (Nat.le_refl _) (Nat.le_refl _) _, vaP_cons A0 (vaP_cons A1 (vaP_cons h8 (vaP_cons g9 (vaP_cons A3 (vaP_cons B1 (vaP_cons B2 (vaP_cons B3 (vaP_cons B7 (vaP_cons B4 (vaP_cons B5 (vaP_cons B6 (vaP_cons B8 (vaP_cons B11 vaP_nil))))))))))))), D_keys (K := (fun q => if q = sp + 4 then 1001 else if q = sp + 5 then 1002 else if q = sp + 6 then 1003 else Γ q)) (tl := [1, 2, 22, 20, 13, 110, 111, 112, 113, 1001, 1002, 1003, 26, 29]) (by show [(fun q => if q = sp + 4 then 1001 else if q = sp + 5 then 1002 else if q = sp + 6 then 1003 else Γ q) x0, (fun q => if q = sp + 4 then 1001 else if q = sp + 5 then 1002 else if q = sp + 6 then 1003 else Γ q) t0, (fun q => if q = sp + 4 then 1001 else if q = sp + 5 then 1002 else if q = sp + 6 then 1003 else Γ q) tq, (fun q => if q = sp + 4 then 1001 else if q = sp + 5 then 1002 else if q = sp + 6 then 1003 else Γ q) va, (fun q => if q = sp + 4 then 1001 else if q = sp + 5 then 1002 else if q = sp + 6 then 1003 else Γ q) sp, (fun q => if q = sp + 4 then 1001 else if q = sp + 5 then 1002 else if q = sp + 6 then 1003 else Γ q) (sp + 1), (fun q => if q = sp + 4 then 1001 else if q = sp + 5 then 1002 else if q = sp + 6 then 1003 else Γ q) (sp + 2), (fun q => if q = sp + 4 then 1001 else if q = sp + 5 then 1002 else if q = sp + 6 then 1003 else Γ q) (sp + 3), (fun q => if q = sp + 4 then 1001 else if q = sp + 5 then 1002 else if q = sp + 6 then 1003 else Γ q) (sp + 7), (fun q => if q = sp + 4 then 1001 else if q = sp + 5 then 1002 else if q = sp + 6 then 1003 else Γ q) (sp + 4), (fun q => if q = sp + 4 then 1001 else if q = sp + 5 then 1002 else if q = sp + 6 then 1003 else Γ q) (sp + 5), (fun q => if q = sp + 4 then 1001 else if q = sp + 5 then 1002 else if q = sp + 6 then 1003 else Γ q) (sp + 6), (fun q => if q = sp + 4 then 1001 else if q = sp + 5 then 1002 else if q = sp + 6 then 1003 else Γ q) (sp + 8), (fun q => if q = sp + 4 then 1001 else if q = sp + 5 then 1002 else if q = sp + 6 then 1003 else Γ q) (sp + 11)] = _; rw [show (fun q => if q = sp + 4 then 1001 else if q = sp + 5 then 1002 else if q = sp + 6 then 1003 else Γ q) x0 = 1 from key24 (sp := sp) tx s4 s5 s6 (by decide), show (fun q => if q = sp + 4 then 1001 else if q = sp + 5 then 1002 else if q = sp + 6 then 1003 else Γ q) t0 = 2 from key24 (sp := sp) e0 s4 s5 s6 (by decide), show (fun q => if q = sp + 4 then 1001 else if q = sp + 5 then 1002 else if q = sp + 6 then 1003 else Γ q) tq = 22 from key24 (sp := sp) eq s4 s5 s6 (by decide), show (fun q => if q = sp + 4 then 1001 else if q = sp + 5 then 1002 else if q = sp + 6 then 1003 else Γ q) va = 20 from key24 (sp := sp) ea s4 s5 s6 (by decide), show (fun q => if q = sp + 4 then 1001 else if q = sp + 5 then 1002 else if q = sp + 6 then 1003 else Γ q) sp = 13 from key24 (sp := sp) es s4 s5 s6 (by decide), show (fun q => if q = sp + 4 then 1001 else if q = sp + 5 then 1002 else if q = sp + 6 then 1003 else Γ q) (sp + 1) = 110 from key24 (sp := sp) s1 s4 s5 s6 (by decide), show (fun q => if q = sp + 4 then 1001 else if q = sp + 5 then 1002 else if q = sp + 6 then 1003 else Γ q) (sp + 2) = 111 from key24 (sp := sp) s2 s4 s5 s6 (by decide), show (fun q => if q = sp + 4 then 1001 else if q = sp + 5 then 1002 else if q = sp + 6 then 1003 else Γ q) (sp + 3) = 112 from key24 (sp := sp) s3 s4 s5 s6 (by decide), show (fun q => if q = sp + 4 then 1001 else if q = sp + 5 then 1002 else if q = sp + 6 then 1003 else Γ q) (sp + 7) = 113 from key24 (sp := sp) s7 s4 s5 s6 (by decide), show (fun q => if q = sp + 4 then 1001 else if q = sp + 5 then 1002 else if q = sp + 6 then 1003 else Γ q) (sp + 4) = 1001 from if_pos rfl, show (fun q => if q = sp + 4 then 1001 else if q = sp + 5 then 1002 else if q = sp + 6 then 1003 else Γ q) (sp + 5) = 1002 from (if_neg (by omega)).trans (if_pos rfl), show (fun q => if q = sp + 4 then 1001 else if q = sp + 5 then 1002 else if q = sp + 6 then 1003 else Γ q) (sp + 6) = 1003 from (if_neg (by omega)).trans ((if_neg (by omega)).trans (if_pos rfl)), show (fun q => if q = sp + 4 then 1001 else if q = sp + 5 then 1002 else if q = sp + 6 then 1003 else Γ q) (sp + 8) = 26 from key24 (sp := sp) s8 s4 s5 s6 (by decide), show (fun q => if q = sp + 4 then 1001 else if q = sp + 5 then 1002 else if q = sp + 6 then 1003 else Γ q) (sp + 11) = 29 from key24 (sp := sp) s11 s4 s5 s6 (by decide)]) (by decide) ?_, fun x u H1 hp hP hz hk => ?_⟩
        · intro k w hw
          match k, hw with
          | 0, hw => cases hw; show Γ x0 ≠ 0; rw [tx]; decide
          | 1, hw => cases hw; show Γ t0 ≠ 0; rw [e0]; decide
          | 2, hw => cases hw; show Γ tq ≠ 0; rw [eq]; decide
          | 3, hw => cases hw; show Γ va ≠ 0; rw [ea]; decide
          | 4, hw => cases hw; show Γ sp ≠ 0; rw [es]; decide
          | 5, hw => cases hw; show Γ (sp + 1) ≠ 0; rw [s1]; decide
          | 6, hw => cases hw; show Γ (sp + 2) ≠ 0; rw [s2]; decide
          | 7, hw => cases hw; show Γ (sp + 3) ≠ 0; rw [s3]; decide
          | 8, hw => cases hw; show Γ (sp + 7) ≠ 0; rw [s7]; decide
          | 9, hw => cases hw; show Γ (sp + 4) ≠ 0; rw [s4]; decide
          | 10, hw => cases hw; show Γ (sp + 5) ≠ 0; rw [s5]; decide
          | 11, hw => cases hw; show Γ (sp + 6) ≠ 0; rw [s6]; decide
          | 12, hw => cases hw; show Γ (sp + 8) ≠ 0; rw [s8]; decide
          | 13, hw => cases hw; show Γ (sp + 11) ≠ 0; rw [s11]; decide
          | k + 14, hw => cases hw
        · obtain ⟨z, hx, rfl⟩ := hp
          have Y0 := hP 0 _ rfl
          have tg : ([(x0, .inr (11, [.ref t0, .ref va, .ref pa, .ref c3, .ref c4, .ref c5, .ref c6, .ref c7, .ref c8, .ref c9, .ref sp, .int (nI nv), .int (nI np), .int (nI (psum P np))])), (t0, .inr (8, [.ref tq, .int (nI n), .int pl])), (tq, .inl (g.2.1 1, 400, .inl (ub fb))), (va, .inl (g.2.1 4, 10, .inr (.inr (.inr (.inr fA'))))), (sp, .inr (10, [.int pe, .int lc, .int de, .ref (sp + 1), .ref (sp + 2), .ref (sp + 3), .ref (sp + 4), .ref (sp + 5), .ref (sp + 6), .ref (sp + 7), .ref (sp + 8), .ref (sp + 9), .ref (sp + 10), .ref (sp + 11), .int gl, .ref v15])), (sp + 1, .inl (g.2.1 1, 4, .inl g1)), (sp + 2, .inl (g.2.1 1, 4, .inl g2)), (sp + 3, .inl (g.2.1 1, 4, .inl g3)), (sp + 7, .inl (g.2.1 1, 72, .inl L)), (sp + 4, .inl (g.2.1 1, 7, .inl k6)), (sp + 5, .inl (g.2.1 1, 7, .inl k7)), (sp + 6, .inl (g.2.1 1, 7, .inl k8)), (sp + 8, .inl (g.2.1 1, 175, .inl K)), (sp + 11, .inl (g.2.1 1, 28, .inl k13))] : va_W).map (fun w => Γ w.1) = [1, 2, 22, 20, 13, 110, 111, 112, 113, 24, 24, 24, 26, 29] := by
            show [Γ x0, Γ t0, Γ tq, Γ va, Γ sp, Γ (sp + 1), Γ (sp + 2), Γ (sp + 3), Γ (sp + 7), Γ (sp + 4), Γ (sp + 5), Γ (sp + 6), Γ (sp + 8), Γ (sp + 11)] = _
            rw [tx, e0, eq, ea, es, s1, s2, s3, s7, s4, s5, s6, s8, s11]
          have kp : ∀ {q t : Nat}, Γ q = t → t ≠ 0 → ([1, 2, 22, 20, 13, 110, 111, 112, 113, 24, 24, 24, 26, 29].any fun u => Nat.beq u t) = false → H1[q]? = H[q]? := fun {q t} h h0 h1 => hk q (lt h h0) (nin_tag tg h h1 (lt h h0))
          exact ⟨RY0.same (FE_at (k := 3) Y0 rfl (by decide) rfl) r2 r3 r4 (kp t5 (by decide) rfl), PWX.same (FE_at (k := 4) Y0 rfl (by decide) rfl) w71 (kp t67 (by decide) rfl) (kp t407 (by decide) rfl) (kp t417 (by decide) rfl)⟩
      · have tg : ([(x0, .inr (11, [.ref t0, .ref va, .ref pa, .ref c3, .ref c4, .ref c5, .ref c6, .ref c7, .ref c8, .ref c9, .ref sp, .int (nI nv), .int (nI np), .int (nI (psum P np))])), (t0, .inr (8, [.ref tq, .int (nI n), .int pl])), (tq, .inl (g.2.1 1, 400, .inl (ub fb))), (sp, .inr (10, [.int pe, .int lc, .int de, .ref (sp + 1), .ref (sp + 2), .ref (sp + 3), .ref (sp + 4), .ref (sp + 5), .ref (sp + 6), .ref (sp + 7), .ref (sp + 8), .ref (sp + 9), .ref (sp + 10), .ref (sp + 11), .int gl, .ref v15])), (sp + 1, .inl (g.2.1 1, 4, .inl g1)), (sp + 2, .inl (g.2.1 1, 4, .inl g2)), (sp + 3, .inl (g.2.1 1, 4, .inl g3)), (sp + 7, .inl (g.2.1 1, 72, .inl L))] : va_W).map (fun w => Γ w.1) = [1, 2, 22, 13, 110, 111, 112, 113] := by
          show [Γ x0, Γ t0, Γ tq, Γ sp, Γ (sp + 1), Γ (sp + 2), Γ (sp + 3), Γ (sp + 7)] = _
          rw [tx, e0, eq, es, s1, s2, s3, s7]
        refine ⟨0, 0, _, _, MetI.grow (C_X11_valley0 l g x0 t0 va pa c3 c4 c5 c6 c7 c8 c9 nv np (nI (psum P np)) tq (ub fb) n pl sp (sp + 1) (sp + 2) (sp + 3) (sp + 4) (sp + 5) (sp + 6) (sp + 7) (sp + 8) (sp + 9) (sp + 10) (sp + 11) v15 pe lc de gl g1 g2 g3 L hn hnv9 hF) (by decide) (Nat.zero_le _) (Nat.zero_le _) _, vaP_cons A0 (vaP_cons A1 (vaP_cons h8 (vaP_cons A3 (vaP_cons B1 (vaP_cons B2 (vaP_cons B3 (vaP_cons B7 vaP_nil))))))), D_tags tg (by decide) (by decide), fun x u H1 hp hP hz hk => ?_⟩
        obtain ⟨rfl, rfl⟩ := hp
        have Y0 := hP 0 _ rfl
        have kp : ∀ {q t : Nat}, Γ q = t → t ≠ 0 → ([1, 2, 22, 13, 110, 111, 112, 113].any fun u => Nat.beq u t) = false → H1[q]? = H[q]? := fun {q t} h h0 h1 => hk q (lt h h0) (nin_tag tg h h1 (lt h h0))
        exact ⟨RY0.same (FE_at (k := 3) Y0 rfl (by decide) rfl) r2 r3 r4 (kp t5 (by decide) rfl), PWX.same (FE_at (k := 4) Y0 rfl (by decide) rfl) w71 (kp t67 (by decide) rfl) (kp t407 (by decide) rfl) (kp t417 (by decide) rfl)⟩

end

/-- what a valley keeps of its search, by the valley's own rows -/
def GLV (g : GG) (H : Heap) (v : Nat) : Prop := ∃ (pz lz gl : Int32) (L gr : Nat → Int32), FE g v 10 0 H (.int pz) ∧ FE g v 10 1 H (.int lz) ∧ FE g v 10 9 H (.ref (v + 7)) ∧ FE g v 10 14 H (.int gl) ∧ FE g v 10 15 H (.ref (v + 12)) ∧ AT g 1 72 (v + 7) L H ∧ AT g 1 7 (v + 12) gr H ∧ tN lz ≤ 12 ∧ GLW L (tN lz) (tN pz) gl gr
theorem GLV.same {g : GG} {H H1 : Heap} {v : Nat} (h : GLV g H v) (e : H1[v]? = H[v]?) (e7 : H1[v + 7]? = H[v + 7]?) (e12 : H1[v + 12]? = H[v + 12]?) : GLV g H1 v := by
  obtain ⟨pz, lz, gl, L, gr, f0, f1, f9, f14, f15, a7, a12, b, c⟩ := h
  exact ⟨pz, lz, gl, L, gr, FE_kept f0 e, FE_kept f1 e, FE_kept f9 e, FE_kept f14 e, FE_kept f15 e, va_at.kept a7 e7, va_at.kept a12 e12, b, c⟩
theorem GLV.tags {g : GG} {Γ : Nat → Nat} {H : Heap} {v : Nat} (h : GLV g H v) (hT : HT g TS0 Γ H) (tv : Γ v = 3) : Γ (v + 7) = 25 ∧ Γ (v + 12) = 30 := by
  obtain ⟨pz, lz, gl, L, gr, f0, f1, f9, f14, f15, -⟩ := h
  exact ⟨(ref_tag (k := 9) (u := 25) hT tv (by decide) rfl rfl f9).1, (ref_tag (k := 15) (u := 30) hT tv (by decide) rfl rfl f15).1⟩
def RYK (g : GG) (x0 : Nat) (H : Heap) : Prop := ∃ (va : Nat) (fA : Nat → Option Nat) (sp : Nat), FE g x0 11 1 H (.ref va) ∧ RFA g va 4 10 fA H ∧ FE g x0 11 10 H (.ref sp) ∧ FE g sp 10 14 H (.int (-2)) ∧ FE g sp 10 15 H (.ref (sp + 12)) ∧ ∀ i v : Nat, i < 10 → fA i = some v → GLV g H v
theorem RYK.vt {g : GG} {Γ : Nat → Nat} {H : Heap} {x0 va : Nat} {fA : Nat → Option Nat} (hT : HT g TS0 Γ H) (tx : Γ x0 = 1) (h1 : FE g x0 11 1 H (.ref va)) (h2 : RFA g va 4 10 fA H) {i v : Nat} (hi : i < 10) (hv : fA i = some v) : Γ v = 3 := RCV.tag hT tx h1 h2 hi hv
theorem RYK.keep {g : GG} {Γ : Nat → Nat} {H H1 : Heap} {x0 : Nat} {mods : List (Nat × Nat)} (h : RYK g x0 H) (hT : HT g TS0 Γ H) (tx : Γ x0 = 1) (hu : Un g TS0 Γ mods H H1) (hm : mdn [(1, 1), (1, 10), (20, 0), (13, 14), (13, 15), (3, 0), (3, 1), (3, 9), (3, 14), (3, 15), (25, 0), (30, 0)] mods = true) : RYK g x0 H1 := by
  obtain ⟨va, fA, sp, h1, h2, h3, h4, h5, h6⟩ := h
  have tva := (ref_tag (k := 1) (u := 20) hT tx (by decide) rfl rfl h1).1
  have tsp := (ref_tag (k := 10) (u := 13) hT tx (by decide) rfl rfl h3).1
  refine ⟨va, fA, sp, hu.fld tx (by decide) rfl (mdn_at hm (by decide)) h1, va_at.kept h2 (hu.arr tva (by decide) rfl (mdn_at hm (by decide))), hu.fld tx (by decide) rfl (mdn_at hm (by decide)) h3, hu.fld tsp (by decide) rfl (mdn_at hm (by decide)) h4, hu.fld tsp (by decide) rfl (mdn_at hm (by decide)) h5, fun i v hi hv => ?_⟩
  have tv := RYK.vt hT tx h1 h2 hi hv
  have q := h6 i v hi hv
  obtain ⟨t7, t12⟩ := q.tags hT tv
  obtain ⟨pz, lz, gl, L, gr, f0, f1, f9, f14, f15, a7, a12, b, c⟩ := q
  exact ⟨pz, lz, gl, L, gr, hu.fld tv (by decide) rfl (mdn_at hm (by decide)) f0, hu.fld tv (by decide) rfl (mdn_at hm (by decide)) f1, hu.fld tv (by decide) rfl (mdn_at hm (by decide)) f9, hu.fld tv (by decide) rfl (mdn_at hm (by decide)) f14, hu.fld tv (by decide) rfl (mdn_at hm (by decide)) f15, va_at.kept a7 (hu.arr t7 (by decide) rfl (mdn_at hm (by decide))), va_at.kept a12 (hu.arr t12 (by decide) rfl (mdn_at hm (by decide))), b, c⟩
/-- what stands at the end, where the class's object, its valleys' row and the spare one are told anew -/
theorem RYK.fin {g : GG} {H1 : Heap} {x0 va sp : Nat} {fA fB : Nat → Option Nat} (h1 : FE g x0 11 1 H1 (.ref va)) (h2 : RFA g va 4 10 fA H1) (h3 : FE g x0 11 10 H1 (.ref sp)) (h4 : FE g sp 10 14 H1 (.int (-2))) (h5 : FE g sp 10 15 H1 (.ref (sp + 12))) (hf : ∀ i v : Nat, i < 10 → fA i = some v → fB i = some v) (h6 : ∀ i v : Nat, i < 10 → fB i = some v → GLV g H1 v) : RYK g x0 H1 := ⟨va, fA, sp, h1, h2, h3, h4, h5, fun i v hi hv => h6 i v hi (hf i v hi hv)⟩
theorem nin_ne {ws : va_W} {al : List Nat} {sz q : Nat} (h : ws.map (fun w => w.1) = al) (hq : ∀ a ∈ al, ¬ a = q) (hlt : q < sz) : ¬ va_A ws sz q := fun hA => by
  rcases hA with ⟨k, e, hk⟩ | hA
  · exact hq q (by rw [← h]; exact List.mem_map.mpr ⟨(q, e), List.mem_of_getElem? hk, rfl⟩) rfl
  · omega
theorem all_cons {p : Nat → Prop} {a : Nat} {l : List Nat} (h : p a) (hl : ∀ x ∈ l, p x) : ∀ x ∈ a :: l, p x := fun x hx => by
  rcases List.mem_cons.mp hx with rfl | hx
  · exact h
  · exact hl x hx
theorem all_nil {p : Nat → Prop} : ∀ x ∈ ([] : List Nat), p x := fun x hx => (List.not_mem_nil hx).elim
theorem nt_ne {Γ : Nat → Nat} {u v a b : Nat} (hu : Γ u = a) (hv : Γ v = b) (h : ¬ a = b) : ¬ u = v := fun q => h (by rw [← hu, ← hv, q])
section
variable {l : Launch} {g : GG} {Γ : Nat → Nat} {x0 m0 n nv np : Nat} {fb : Nat → Int32} {V : Nat → VV} {P : Nat → PP}
set_option maxHeartbeats 8000000 in
theorem E11_planY (hU : UQ TS0 Γ) (hnv : nv ≤ 10) (hnp : np ≤ 12) (hZ : PLW nv V np P) (tx : Γ x0 = 1) (p0 : Int32) : EG l g yX11_plan cX11_plan 3 3 8 289 x0 m0 Γ [.ref x0, .int p0] (fun H => RC1 g x0 n fb nv np H ∧ RCV g x0 nv V H ∧ RCP g x0 np P H ∧ RYK g x0 H) (fun H _ H1 => RYK g x0 H1) :=
  EG_ofD (GX11_plan l g x0 m0 p0) hU fun H hT hLF hR => by
    obtain ⟨hR, hRV, hRP, hRY⟩ := hR
    obtain ⟨va, pa, fA, fB, k1, k9, k2, k11, k13, k14, k15⟩ := hRP
    obtain ⟨t0, tq, va'', pa', sp, fA'', fB', ⟨e0, eq, ea, ep, es⟩, h0, h1, h2, h3, h4, h5, h6, h7, h8, h9, h10, h11, h12, h13⟩ := hR.tags hT tx
    cases FE_fun k1 h1
    cases FE_fun k2 h2
    obtain ⟨c3, c4, c5, c6, c7, c8, c9, cc, A0⟩ := DV1 hT tx h0 h1 h2 h3 h4 h5
    obtain ⟨yva, yfA, ysp, y1, y2, y3, y4, y5, y6⟩ := hRY
    have tva := (ref_tag (k := 1) (u := 20) hT tx (by decide) rfl rfl y1).1
    have tsp := (ref_tag (k := 10) (u := 13) hT tx (by decide) rfl rfl y3).1
    have yt := fun i v (hi : i < 10) (hv : yfA i = some v) => RYK.vt hT tx y1 y2 hi hv
    cases FE_fun y1 (FE_at (k := 1) A0 rfl (by decide) rfl)
    cases FE_fun y3 (FE_at (k := 10) A0 rfl (by decide) rfl)
    cases FE_fun k13 (FE_at (k := 13) A0 rfl (by decide) rfl)
    have lt : ∀ {q t : Nat}, Γ q = t → t ≠ 0 → q < H.size := fun h h0 => hT.lt (by rw [h]; exact h0)
    obtain ⟨va', fA', sp', g1, g9, g10, -⟩ := hRV
    cases FE_fun k1 g1
    rcases vin_cases (n := nv) (by omega) p0 with hb | ⟨i, hi, rfl⟩
    · have tg : [Γ x0, Γ va] = [1, 20] := by rw [tx, ea]
      refine ⟨0, 0, _, _, MetI.grow (K_X11_plan0 l g x0 t0 va pa c3 c4 c5 c6 c7 c8 c9 sp nv np (nI (psum P np)) fA p0 hb) (by decide) (Nat.zero_le _) (Nat.zero_le _) _, vaP_cons A0 (vaP_cons k9 vaP_nil), D_tags (tl := [1, 20]) tg (by decide) (by decide), fun x u H1 hp hP hD hz hk => ?_⟩
      obtain ⟨hx, rfl⟩ := hp
      exact RYK.fin (fB := yfA) (FE_at (k := 1) (hP 0 _ rfl) rfl (by decide) rfl) (hP 1 _ rfl) (FE_at (k := 10) (hP 0 _ rfl) rfl (by decide) rfl) (FE_kept y4 (hk _ (lt tsp (by decide)) (nin_tag (tl := [1, 20]) tg tsp rfl (lt tsp (by decide))))) (FE_kept y5 (hk _ (lt tsp (by decide)) (nin_tag (tl := [1, 20]) tg tsp rfl (lt tsp (by decide))))) (fun i v hi hv => RFA_fun k9 y2 hi hv) (fun i v hi hv => (y6 i v hi hv).same (hk _ (lt (yt i v hi hv) (by decide)) (nin_tag (tl := [1, 20]) tg (yt i v hi hv) rfl (lt (yt i v hi hv) (by decide)))) (hk _ (lt ((y6 i v hi hv).tags hT (yt i v hi hv)).1 (by decide)) (nin_tag (tl := [1, 20]) tg ((y6 i v hi hv).tags hT (yt i v hi hv)).1 rfl (lt ((y6 i v hi hv).tags hT (yt i v hi hv)).1 (by decide)))) (hk _ (lt ((y6 i v hi hv).tags hT (yt i v hi hv)).2 (by decide)) (nin_tag (tl := [1, 20]) tg ((y6 i v hi hv).tags hT (yt i v hi hv)).2 rfl (lt ((y6 i v hi hv).tags hT (yt i v hi hv)).2 (by decide)))))
    · by_cases h12' : np = 12
      · obtain ⟨-, v, hv, -⟩ := g10 i hi
        have hv2 := RFA_fun g9 k9 (by omega) hv
        have tg : [Γ x0, Γ va] = [1, 20] := by rw [tx, ea]
        refine ⟨0, 0, _, _, MetI.grow (C_X11_plan0b l g x0 t0 va pa c3 c4 c5 c6 c7 c8 c9 sp nv np (nI (psum P np)) fA i v hi hnv hv2 h12') (by decide) (Nat.zero_le _) (Nat.zero_le _) _, vaP_cons A0 (vaP_cons k9 vaP_nil), D_tags (tl := [1, 20]) tg (by decide) (by decide), fun x u H1 hp hP hD hz hk => ?_⟩
        obtain ⟨hx, rfl⟩ := hp
        exact RYK.fin (fB := yfA) (FE_at (k := 1) (hP 0 _ rfl) rfl (by decide) rfl) (hP 1 _ rfl) (FE_at (k := 10) (hP 0 _ rfl) rfl (by decide) rfl) (FE_kept y4 (hk _ (lt tsp (by decide)) (nin_tag (tl := [1, 20]) tg tsp rfl (lt tsp (by decide))))) (FE_kept y5 (hk _ (lt tsp (by decide)) (nin_tag (tl := [1, 20]) tg tsp rfl (lt tsp (by decide))))) (fun i v hi hv => RFA_fun k9 y2 hi hv) (fun i v hi hv => (y6 i v hi hv).same (hk _ (lt (yt i v hi hv) (by decide)) (nin_tag (tl := [1, 20]) tg (yt i v hi hv) rfl (lt (yt i v hi hv) (by decide)))) (hk _ (lt ((y6 i v hi hv).tags hT (yt i v hi hv)).1 (by decide)) (nin_tag (tl := [1, 20]) tg ((y6 i v hi hv).tags hT (yt i v hi hv)).1 rfl (lt ((y6 i v hi hv).tags hT (yt i v hi hv)).1 (by decide)))) (hk _ (lt ((y6 i v hi hv).tags hT (yt i v hi hv)).2 (by decide)) (nin_tag (tl := [1, 20]) tg ((y6 i v hi hv).tags hT (yt i v hi hv)).2 rfl (lt ((y6 i v hi hv).tags hT (yt i v hi hv)).2 (by decide)))))
      · obtain ⟨-, v, hv, -⟩ := g10 i hi
        have hv2 := RFA_fun g9 k9 (by omega) hv
        have tg : [Γ x0, Γ va, Γ pa] = [1, 20, 21] := by rw [tx, ea, ep]
        refine ⟨8, 289, _, _, MetI.grow (C_X11_plan1 l g x0 t0 va pa c3 c4 c5 c6 c7 c8 c9 sp nv np (nI (psum P np)) fA fB i v hi hnv hv2 (by omega)) (by decide) (Nat.le_refl _) (Nat.le_refl _) _, vaP_cons A0 (vaP_cons k9 (vaP_cons k11 vaP_nil)), D_tags (tl := [1, 20, 21]) tg (by decide) (by decide), fun x u H1 hp hP hD hz hk => ?_⟩
        obtain ⟨z, rfl, rfl⟩ := hp
        exact RYK.fin (fB := yfA) (FE_at (k := 1) (hP 0 _ rfl) rfl (by decide) rfl) (hP 1 _ rfl) (FE_at (k := 10) (hP 0 _ rfl) rfl (by decide) rfl) (FE_kept y4 (hk _ (lt tsp (by decide)) (nin_tag (tl := [1, 20, 21]) tg tsp rfl (lt tsp (by decide))))) (FE_kept y5 (hk _ (lt tsp (by decide)) (nin_tag (tl := [1, 20, 21]) tg tsp rfl (lt tsp (by decide))))) (fun i v hi hv => RFA_fun k9 y2 hi hv) (fun i v hi hv => (y6 i v hi hv).same (hk _ (lt (yt i v hi hv) (by decide)) (nin_tag (tl := [1, 20, 21]) tg (yt i v hi hv) rfl (lt (yt i v hi hv) (by decide)))) (hk _ (lt ((y6 i v hi hv).tags hT (yt i v hi hv)).1 (by decide)) (nin_tag (tl := [1, 20, 21]) tg ((y6 i v hi hv).tags hT (yt i v hi hv)).1 rfl (lt ((y6 i v hi hv).tags hT (yt i v hi hv)).1 (by decide)))) (hk _ (lt ((y6 i v hi hv).tags hT (yt i v hi hv)).2 (by decide)) (nin_tag (tl := [1, 20, 21]) tg ((y6 i v hi hv).tags hT (yt i v hi hv)).2 rfl (lt ((y6 i v hi hv).tags hT (yt i v hi hv)).2 (by decide)))))
set_option maxHeartbeats 8000000 in
theorem E11_valleyY (hn : n ≤ 400) (hU : UQ TS0 Γ) (hnv : nv ≤ 10) (hnp : np ≤ 12) (hZ : PLW nv V np P) (tx : Γ x0 = 1) : EG l g yX11_valley cX11_valley 1 9 13 380 x0 m0 Γ [.ref x0] (fun H => RC1 g x0 n fb nv np H ∧ RCV g x0 nv V H ∧ RCP g x0 np P H ∧ RYK g x0 H) (fun H v H1 => RYK g x0 H1) :=
  EG_of (GX11_valley l g x0 m0) hU fun H hT hLF hR => by
    obtain ⟨hR, -, hRP, hRY⟩ := hR
    obtain ⟨t0, tq, va, pa, sp, fA, fB, ⟨e0, eq, ea, ep, es⟩, h0, h1, h2, h3, h4, h5, h6, h7, h8, h9, h10, h11, h12, h13⟩ := hR.tags hT tx
    obtain ⟨c3, c4, c5, c6, c7, c8, c9, cc, A0⟩ := DV1 hT tx h0 h1 h2 h3 h4 h5
    obtain ⟨yva, yfA, ysp, y1, y2, y3, y4, y5, y6⟩ := hRY
    have tva := (ref_tag (k := 1) (u := 20) hT tx (by decide) rfl rfl y1).1
    have tsp := (ref_tag (k := 10) (u := 13) hT tx (by decide) rfl rfl y3).1
    have yt := fun i v (hi : i < 10) (hv : yfA i = some v) => RYK.vt hT tx y1 y2 hi hv
    cases FE_fun y1 (FE_at (k := 1) A0 rfl (by decide) rfl)
    cases FE_fun y3 (FE_at (k := 10) A0 rfl (by decide) rfl)
    obtain ⟨pl, A1⟩ := DVt hT e0 h6 h7
    obtain ⟨pe, lc, de, gl, v15, A3⟩ := spare_open hT es h13
    cases FE_fun y4 (FE_at (k := 14) A3 rfl (by decide) rfl)
    cases FE_fun y5 (FE_at (k := 15) A3 rfl (by decide) rfl)
    obtain ⟨s1, s2, s3, s4, s5, s6, s7, s8, s9, s10, s11⟩ := spare_tags hT es h13
    obtain ⟨g1, B1⟩ := ints_of hT s1 (by decide) rfl
    obtain ⟨g2, B2⟩ := ints_of hT s2 (by decide) rfl
    obtain ⟨g3, B3⟩ := ints_of hT s3 (by decide) rfl
    obtain ⟨L, B7⟩ := ints_of hT s7 (by decide) rfl
    obtain ⟨va', pa', fA', fB', k1, g9, k2, k11, k13, k14, k15⟩ := hRP
    cases FE_fun h1 k1
    cases FE_fun h2 k2
    cases FE_fun k13 (FE_at (k := 13) A0 rfl (by decide) rfl)
    have lt : ∀ {q t : Nat}, Γ q = t → t ≠ 0 → q < H.size := fun h h0 => hT.lt (by rw [h]; exact h0)
    by_cases h10' : nv = 10
    · have tg : ([(x0, .inr (11, [.ref t0, .ref va, .ref pa, .ref c3, .ref c4, .ref c5, .ref c6, .ref c7, .ref c8, .ref c9, .ref sp, .int (nI nv), .int (nI np), .int (nI (psum P np))]))] : va_W).map (fun w => Γ w.1) = [1] := by show [Γ x0] = _; rw [tx]
      refine ⟨0, 0, _, _, MetI.grow (C_X11_valleyF l g x0 t0 va pa c3 c4 c5 c6 c7 c8 c9 nv np (nI (psum P np)) sp h10') (Nat.zero_le _) (Nat.zero_le _) (Nat.zero_le _) _, vaP_cons A0 vaP_nil, D_tags tg (by decide) (by decide), fun x u H1 hp hP hz hk => ?_⟩
      obtain ⟨rfl, rfl⟩ := hp
      have Y0 := hP 0 _ rfl
      have kp : ∀ {q t : Nat}, Γ q = t → t ≠ 0 → ([1].any fun u => Nat.beq u t) = false → H1[q]? = H[q]? := fun {q t} h h0 h1 => hk q (lt h h0) (nin_tag tg h h1 (lt h h0))
      exact RYK.fin (fB := yfA) (FE_at (k := 1) Y0 rfl (by decide) rfl) (va_at.kept y2 (kp tva (by decide) rfl)) (FE_at (k := 10) Y0 rfl (by decide) rfl) (FE_kept y4 (kp tsp (by decide) rfl)) (FE_kept y5 (kp tsp (by decide) rfl)) (fun i v hi hv => hv) (fun i v hi hv => (y6 i v hi hv).same (kp (yt i v hi hv) (by decide) rfl) (kp ((y6 i v hi hv).tags hT (yt i v hi hv)).1 (by decide) rfl) (kp ((y6 i v hi hv).tags hT (yt i v hi hv)).2 (by decide) rfl))
    · have hnv9 : nv < 10 := by omega
      by_cases hF : (rdx n (ub fb) L).1 = -1
      · have hL : lspF L := by
          obtain ⟨L2, e1, e2⟩ := (hT.2.1 rfl).1.1 (sp + 7) (Or.inr s7)
          exact fun j hj => by rw [(AT_fun B7 e1 hj).2]; exact e2 j hj
        obtain ⟨p, p1, p2, p3, -, y2', -, -, -, -, -, y8⟩ := (rdx_ok (f := ub fb) hn hL).2.resolve_left fun h => h.2.1 hF
        obtain ⟨k6, B4⟩ := ints_of hT s4 (by decide) rfl
        obtain ⟨k7, B5⟩ := ints_of hT s5 (by decide) rfl
        obtain ⟨k8, B6⟩ := ints_of hT s6 (by decide) rfl
        obtain ⟨K, B8⟩ := ints_of hT s8 (by decide) rfl
        obtain ⟨cdf, B9⟩ := ints_of hT s9 (by decide) rfl
        obtain ⟨k13, B11⟩ := ints_of hT s11 (by decide) rfl
        refine ⟨13, 380, _, _, MetI.grow (C_X11_valley1 l g x0 t0 va pa c3 c4 c5 c6 c7 c8 c9 nv np (nI (psum P np)) tq (ub fb) n pl sp (sp + 1) (sp + 2) (sp + 3) (sp + 4) (sp + 5) (sp + 6) (sp + 7) (sp + 8) (sp + 9) (sp + 10) (sp + 11) (sp + 12) pe lc de (-2) g1 g2 g3 L fA' k6 k7 k8 K k13 p hn hnv9 hF y2' p2 y8) (by decide) (Nat.le_refl _) (Nat.le_refl _) _, vaP_cons A0 (vaP_cons A1 (vaP_cons h8 (vaP_cons g9 (vaP_cons A3 (vaP_cons B1 (vaP_cons B2 (vaP_cons B3 (vaP_cons B7 (vaP_cons B4 (vaP_cons B5 (vaP_cons B6 (vaP_cons B8 (vaP_cons B11 vaP_nil))))))))))))), D_keys (K := (fun q => if q = sp + 4 then 1001 else if q = sp + 5 then 1002 else if q = sp + 6 then 1003 else Γ q)) (tl := [1, 2, 22, 20, 13, 110, 111, 112, 113, 1001, 1002, 1003, 26, 29]) (by show [(fun q => if q = sp + 4 then 1001 else if q = sp + 5 then 1002 else if q = sp + 6 then 1003 else Γ q) x0, (fun q => if q = sp + 4 then 1001 else if q = sp + 5 then 1002 else if q = sp + 6 then 1003 else Γ q) t0, (fun q => if q = sp + 4 then 1001 else if q = sp + 5 then 1002 else if q = sp + 6 then 1003 else Γ q) tq, (fun q => if q = sp + 4 then 1001 else if q = sp + 5 then 1002 else if q = sp + 6 then 1003 else Γ q) va, (fun q => if q = sp + 4 then 1001 else if q = sp + 5 then 1002 else if q = sp + 6 then 1003 else Γ q) sp, (fun q => if q = sp + 4 then 1001 else if q = sp + 5 then 1002 else if q = sp + 6 then 1003 else Γ q) (sp + 1), (fun q => if q = sp + 4 then 1001 else if q = sp + 5 then 1002 else if q = sp + 6 then 1003 else Γ q) (sp + 2), (fun q => if q = sp + 4 then 1001 else if q = sp + 5 then 1002 else if q = sp + 6 then 1003 else Γ q) (sp + 3), (fun q => if q = sp + 4 then 1001 else if q = sp + 5 then 1002 else if q = sp + 6 then 1003 else Γ q) (sp + 7), (fun q => if q = sp + 4 then 1001 else if q = sp + 5 then 1002 else if q = sp + 6 then 1003 else Γ q) (sp + 4), (fun q => if q = sp + 4 then 1001 else if q = sp + 5 then 1002 else if q = sp + 6 then 1003 else Γ q) (sp + 5), (fun q => if q = sp + 4 then 1001 else if q = sp + 5 then 1002 else if q = sp + 6 then 1003 else Γ q) (sp + 6), (fun q => if q = sp + 4 then 1001 else if q = sp + 5 then 1002 else if q = sp + 6 then 1003 else Γ q) (sp + 8), (fun q => if q = sp + 4 then 1001 else if q = sp + 5 then 1002 else if q = sp + 6 then 1003 else Γ q) (sp + 11)] = _; rw [show (fun q => if q = sp + 4 then 1001 else if q = sp + 5 then 1002 else if q = sp + 6 then 1003 else Γ q) x0 = 1 from key24 (sp := sp) tx s4 s5 s6 (by decide), show (fun q => if q = sp + 4 then 1001 else if q = sp + 5 then 1002 else if q = sp + 6 then 1003 else Γ q) t0 = 2 from key24 (sp := sp) e0 s4 s5 s6 (by decide), show (fun q => if q = sp + 4 then 1001 else if q = sp + 5 then 1002 else if q = sp + 6 then 1003 else Γ q) tq = 22 from key24 (sp := sp) eq s4 s5 s6 (by decide), show (fun q => if q = sp + 4 then 1001 else if q = sp + 5 then 1002 else if q = sp + 6 then 1003 else Γ q) va = 20 from key24 (sp := sp) ea s4 s5 s6 (by decide), show (fun q => if q = sp + 4 then 1001 else if q = sp + 5 then 1002 else if q = sp + 6 then 1003 else Γ q) sp = 13 from key24 (sp := sp) es s4 s5 s6 (by decide), show (fun q => if q = sp + 4 then 1001 else if q = sp + 5 then 1002 else if q = sp + 6 then 1003 else Γ q) (sp + 1) = 110 from key24 (sp := sp) s1 s4 s5 s6 (by decide), show (fun q => if q = sp + 4 then 1001 else if q = sp + 5 then 1002 else if q = sp + 6 then 1003 else Γ q) (sp + 2) = 111 from key24 (sp := sp) s2 s4 s5 s6 (by decide), show (fun q => if q = sp + 4 then 1001 else if q = sp + 5 then 1002 else if q = sp + 6 then 1003 else Γ q) (sp + 3) = 112 from key24 (sp := sp) s3 s4 s5 s6 (by decide), show (fun q => if q = sp + 4 then 1001 else if q = sp + 5 then 1002 else if q = sp + 6 then 1003 else Γ q) (sp + 7) = 113 from key24 (sp := sp) s7 s4 s5 s6 (by decide), show (fun q => if q = sp + 4 then 1001 else if q = sp + 5 then 1002 else if q = sp + 6 then 1003 else Γ q) (sp + 4) = 1001 from if_pos rfl, show (fun q => if q = sp + 4 then 1001 else if q = sp + 5 then 1002 else if q = sp + 6 then 1003 else Γ q) (sp + 5) = 1002 from (if_neg (by omega)).trans (if_pos rfl), show (fun q => if q = sp + 4 then 1001 else if q = sp + 5 then 1002 else if q = sp + 6 then 1003 else Γ q) (sp + 6) = 1003 from (if_neg (by omega)).trans ((if_neg (by omega)).trans (if_pos rfl)), show (fun q => if q = sp + 4 then 1001 else if q = sp + 5 then 1002 else if q = sp + 6 then 1003 else Γ q) (sp + 8) = 26 from key24 (sp := sp) s8 s4 s5 s6 (by decide), show (fun q => if q = sp + 4 then 1001 else if q = sp + 5 then 1002 else if q = sp + 6 then 1003 else Γ q) (sp + 11) = 29 from key24 (sp := sp) s11 s4 s5 s6 (by decide)]) (by decide) ?_, fun x u H1 hp hP hz hk => ?_⟩
        · intro k w hw
          match k, hw with
          | 0, hw => cases hw; show Γ x0 ≠ 0; rw [tx]; decide
          | 1, hw => cases hw; show Γ t0 ≠ 0; rw [e0]; decide
          | 2, hw => cases hw; show Γ tq ≠ 0; rw [eq]; decide
          | 3, hw => cases hw; show Γ va ≠ 0; rw [ea]; decide
          | 4, hw => cases hw; show Γ sp ≠ 0; rw [es]; decide
          | 5, hw => cases hw; show Γ (sp + 1) ≠ 0; rw [s1]; decide
          | 6, hw => cases hw; show Γ (sp + 2) ≠ 0; rw [s2]; decide
          | 7, hw => cases hw; show Γ (sp + 3) ≠ 0; rw [s3]; decide
          | 8, hw => cases hw; show Γ (sp + 7) ≠ 0; rw [s7]; decide
          | 9, hw => cases hw; show Γ (sp + 4) ≠ 0; rw [s4]; decide
          | 10, hw => cases hw; show Γ (sp + 5) ≠ 0; rw [s5]; decide
          | 11, hw => cases hw; show Γ (sp + 6) ≠ 0; rw [s6]; decide
          | 12, hw => cases hw; show Γ (sp + 8) ≠ 0; rw [s8]; decide
          | 13, hw => cases hw; show Γ (sp + 11) ≠ 0; rw [s11]; decide
          | k + 14, hw => cases hw
        · obtain ⟨z, hx, rfl⟩ := hp
          have Y0 := hP 0 _ rfl
          have tg : ([(x0, .inr (11, [.ref t0, .ref va, .ref pa, .ref c3, .ref c4, .ref c5, .ref c6, .ref c7, .ref c8, .ref c9, .ref sp, .int (nI nv), .int (nI np), .int (nI (psum P np))])), (t0, .inr (8, [.ref tq, .int (nI n), .int pl])), (tq, .inl (g.2.1 1, 400, .inl (ub fb))), (va, .inl (g.2.1 4, 10, .inr (.inr (.inr (.inr fA'))))), (sp, .inr (10, [.int pe, .int lc, .int de, .ref (sp + 1), .ref (sp + 2), .ref (sp + 3), .ref (sp + 4), .ref (sp + 5), .ref (sp + 6), .ref (sp + 7), .ref (sp + 8), .ref (sp + 9), .ref (sp + 10), .ref (sp + 11), .int (-2), .ref (sp + 12)])), (sp + 1, .inl (g.2.1 1, 4, .inl g1)), (sp + 2, .inl (g.2.1 1, 4, .inl g2)), (sp + 3, .inl (g.2.1 1, 4, .inl g3)), (sp + 7, .inl (g.2.1 1, 72, .inl L)), (sp + 4, .inl (g.2.1 1, 7, .inl k6)), (sp + 5, .inl (g.2.1 1, 7, .inl k7)), (sp + 6, .inl (g.2.1 1, 7, .inl k8)), (sp + 8, .inl (g.2.1 1, 175, .inl K)), (sp + 11, .inl (g.2.1 1, 28, .inl k13))] : va_W).map (fun w => Γ w.1) = [1, 2, 22, 20, 13, 110, 111, 112, 113, 24, 24, 24, 26, 29] := by
            show [Γ x0, Γ t0, Γ tq, Γ va, Γ sp, Γ (sp + 1), Γ (sp + 2), Γ (sp + 3), Γ (sp + 7), Γ (sp + 4), Γ (sp + 5), Γ (sp + 6), Γ (sp + 8), Γ (sp + 11)] = _
            rw [tx, e0, eq, ea, es, s1, s2, s3, s7, s4, s5, s6, s8, s11]
          have kp : ∀ {q t : Nat}, Γ q = t → t ≠ 0 → ([1, 2, 22, 20, 13, 110, 111, 112, 113, 24, 24, 24, 26, 29].any fun u => Nat.beq u t) = false → H1[q]? = H[q]? := fun {q t} h h0 h1 => hk q (lt h h0) (nin_tag tg h h1 (lt h h0))
          have Y14 := hP 14 _ rfl
          have t12 := (ref_tag (k := 15) (u := 30) hT tsp (by decide) rfl rfl y5).1
          obtain ⟨gr7, B12⟩ := ints_of hT t12 (by decide) rfl
          refine ⟨va, va_up fA' nv (some sp), z, FE_at (k := 1) Y0 rfl (by decide) rfl, hP 3 _ rfl, FE_at (k := 10) Y0 rfl (by decide) rfl, FE_at (k := 14) Y14 rfl (by decide) rfl, FE_at (k := 15) Y14 rfl (by decide) rfl, fun i v hi hv => ?_⟩
          by_cases hi2 : i = nv
          · rw [hi2, va_up_self] at hv
            cases hv
            exact ⟨_, _, _, _, gr7, FE_at (k := 0) (hP 4 _ rfl) rfl (by decide) rfl, FE_at (k := 1) (hP 4 _ rfl) rfl (by decide) rfl, FE_at (k := 9) (hP 4 _ rfl) rfl (by decide) rfl, FE_at (k := 14) (hP 4 _ rfl) rfl (by decide) rfl, FE_at (k := 15) (hP 4 _ rfl) rfl (by decide) rfl, hP 11 _ rfl, va_at.kept B12 (kp t12 (by decide) rfl), by rw [tN_nI (by omega)]; exact y2', Or.inl rfl⟩
          · rw [va_up_ne _ _ hi2] at hv
            have hv := RFA_fun g9 y2 hi hv
            exact (y6 i v hi hv).same (kp (yt i v hi hv) (by decide) rfl) (kp ((y6 i v hi hv).tags hT (yt i v hi hv)).1 (by decide) rfl) (kp ((y6 i v hi hv).tags hT (yt i v hi hv)).2 (by decide) rfl)
      · have tg : ([(x0, .inr (11, [.ref t0, .ref va, .ref pa, .ref c3, .ref c4, .ref c5, .ref c6, .ref c7, .ref c8, .ref c9, .ref sp, .int (nI nv), .int (nI np), .int (nI (psum P np))])), (t0, .inr (8, [.ref tq, .int (nI n), .int pl])), (tq, .inl (g.2.1 1, 400, .inl (ub fb))), (sp, .inr (10, [.int pe, .int lc, .int de, .ref (sp + 1), .ref (sp + 2), .ref (sp + 3), .ref (sp + 4), .ref (sp + 5), .ref (sp + 6), .ref (sp + 7), .ref (sp + 8), .ref (sp + 9), .ref (sp + 10), .ref (sp + 11), .int (-2), .ref (sp + 12)])), (sp + 1, .inl (g.2.1 1, 4, .inl g1)), (sp + 2, .inl (g.2.1 1, 4, .inl g2)), (sp + 3, .inl (g.2.1 1, 4, .inl g3)), (sp + 7, .inl (g.2.1 1, 72, .inl L))] : va_W).map (fun w => Γ w.1) = [1, 2, 22, 13, 110, 111, 112, 113] := by
          show [Γ x0, Γ t0, Γ tq, Γ sp, Γ (sp + 1), Γ (sp + 2), Γ (sp + 3), Γ (sp + 7)] = _
          rw [tx, e0, eq, es, s1, s2, s3, s7]
        refine ⟨0, 0, _, _, MetI.grow (C_X11_valley0 l g x0 t0 va pa c3 c4 c5 c6 c7 c8 c9 nv np (nI (psum P np)) tq (ub fb) n pl sp (sp + 1) (sp + 2) (sp + 3) (sp + 4) (sp + 5) (sp + 6) (sp + 7) (sp + 8) (sp + 9) (sp + 10) (sp + 11) (sp + 12) pe lc de (-2) g1 g2 g3 L hn hnv9 hF) (by decide) (Nat.zero_le _) (Nat.zero_le _) _, vaP_cons A0 (vaP_cons A1 (vaP_cons h8 (vaP_cons A3 (vaP_cons B1 (vaP_cons B2 (vaP_cons B3 (vaP_cons B7 vaP_nil))))))), D_tags tg (by decide) (by decide), fun x u H1 hp hP hz hk => ?_⟩
        obtain ⟨rfl, rfl⟩ := hp
        have Y0 := hP 0 _ rfl
        have kp : ∀ {q t : Nat}, Γ q = t → t ≠ 0 → ([1, 2, 22, 13, 110, 111, 112, 113].any fun u => Nat.beq u t) = false → H1[q]? = H[q]? := fun {q t} h h0 h1 => hk q (lt h h0) (nin_tag tg h h1 (lt h h0))
        exact RYK.fin (fB := yfA) (FE_at (k := 1) Y0 rfl (by decide) rfl) (va_at.kept y2 (kp tva (by decide) rfl)) (FE_at (k := 10) Y0 rfl (by decide) rfl) (FE_at (k := 14) (hP 3 _ rfl) rfl (by decide) rfl) (FE_at (k := 15) (hP 3 _ rfl) rfl (by decide) rfl) (fun i v hi hv => hv) (fun i v hi hv => (y6 i v hi hv).same (kp (yt i v hi hv) (by decide) rfl) (kp ((y6 i v hi hv).tags hT (yt i v hi hv)).1 (by decide) rfl) (kp ((y6 i v hi hv).tags hT (yt i v hi hv)).2 (by decide) rfl))

end
theorem dn_cols {lc : Nat} {L K : Nat → Int32} {y z : Int32} : ∀ l : Nat, L (l * 6) = (F_X11_down1 lc L K y z).2.1 (l * 6) ∧ L (l * 6 + 1) = (F_X11_down1 lc L K y z).2.1 (l * 6 + 1) ∧ L (l * 6 + 4) = (F_X11_down1 lc L K y z).2.1 (l * 6 + 4) := fun l => by
  have key : ∀ (j : Nat) (x : Int32), L (l * 6) = upd L (j * 6 + 5) x (l * 6) ∧ L (l * 6 + 1) = upd L (j * 6 + 5) x (l * 6 + 1) ∧ L (l * 6 + 4) = upd L (j * 6 + 5) x (l * 6 + 4) := fun j x => ⟨(upd_ne (by omega)).symm, (upd_ne (by omega)).symm, (upd_ne (by omega)).symm⟩
  unfold F_X11_down1 F_X10_setDown
  split
  · exact ⟨rfl, rfl, rfl⟩
  · split
    · exact key _ _
    · split
      · exact ⟨rfl, rfl, rfl⟩
      · exact key _ _
set_option maxHeartbeats 8000000 in
theorem E11_downY {l : Launch} {g : GG} {Γ : Nat → Nat} {x0 n nv np : Nat} {fb : Nat → Int32} {V : Nat → VV} (hU : UQ TS0 Γ) (hnv : nv ≤ 10) (tx : Γ x0 = 1) (p0 : Int32) (p1 : Int32) (p2 : Int32) : EX l g yX11_down cX11_down 5 (some .boolean) pX11_down_0 Γ [.ref x0, .int p0, .int p1, .int p2] (fun H => RC1 g x0 n fb nv np H ∧ RCV g x0 nv V H ∧ RYK g x0 H) (fun _ _ H1 => RYK g x0 H1) :=
  EX_of (SX11_down_0 l g) hU ⟨av_ref tx (by decide), avi_top _, avi_top _, avi_top _, trivial⟩ rfl fun H hT hR => by
    obtain ⟨hC, hD, hRY⟩ := hR
    have hR := And.intro hC hD
    obtain ⟨hR, va, fA, sp, g1, g9, g10, g14, g15, g16, g17⟩ := hR
    obtain ⟨t0, tq, va', pa, sp', fA', fB, ⟨e0, eq, ea, ep, es⟩, h0, h1, h2, h3, h4, h5, h6, h7, h8, -, -, -, -, h13⟩ := hR.tags hT tx
    cases FE_fun g1 h1
    cases FE_fun g15 h3
    obtain ⟨c3, c4, c5, c6, c7, c8, c9, cc, A0⟩ := DV1 hT tx h0 h1 h2 h3 h4 h5
    obtain ⟨yva, yfA, ysp, y1, y2, y3, y4, y5, y6⟩ := hRY
    have tva := (ref_tag (k := 1) (u := 20) hT tx (by decide) rfl rfl y1).1
    have tsp := (ref_tag (k := 10) (u := 13) hT tx (by decide) rfl rfl y3).1
    have yt := fun i v (hi : i < 10) (hv : yfA i = some v) => RYK.vt hT tx y1 y2 hi hv
    cases FE_fun y1 (FE_at (k := 1) A0 rfl (by decide) rfl)
    cases FE_fun y3 (FE_at (k := 10) A0 rfl (by decide) rfl)
    have lt : ∀ {q t : Nat}, Γ q = t → t ≠ 0 → q < H.size := fun h h0 => hT.lt (by rw [h]; exact h0)
    rcases vin_cases (n := nv) (by omega) p0 with hb | ⟨i, hi, rfl⟩
    · have tg : [Γ x0, Γ va] = [1, 20] := by rw [tx, ea]
      refine ⟨1, _, _, by decide, K_X11_down0 l g x0 t0 va pa c3 c4 c5 c6 c7 c8 c9 sp nv np cc fA p0 p1 p2 hb, vaP_cons A0 (vaP_cons g9 vaP_nil), D_tags (tl := [1, 20]) tg (by decide) (by decide), fun x u H1 hp hP hz hk hT1 hun => ?_⟩
      obtain ⟨rfl, rfl⟩ := hp
      exact RYK.fin (fB := yfA) (FE_at (k := 1) (hP 0 _ rfl) rfl (by decide) rfl) (hP 1 _ rfl) (FE_at (k := 10) (hP 0 _ rfl) rfl (by decide) rfl) (FE_kept y4 (hk _ (lt tsp (by decide)) (nin_tag (tl := [1, 20]) tg tsp rfl (lt tsp (by decide))))) (FE_kept y5 (hk _ (lt tsp (by decide)) (nin_tag (tl := [1, 20]) tg tsp rfl (lt tsp (by decide))))) (fun i v hi hv => RFA_fun g9 y2 hi hv) (fun i v hi hv => (y6 i v hi hv).same (hk _ (lt (yt i v hi hv) (by decide)) (nin_tag (tl := [1, 20]) tg (yt i v hi hv) rfl (lt (yt i v hi hv) (by decide)))) (hk _ (lt ((y6 i v hi hv).tags hT (yt i v hi hv)).1 (by decide)) (nin_tag (tl := [1, 20]) tg ((y6 i v hi hv).tags hT (yt i v hi hv)).1 rfl (lt ((y6 i v hi hv).tags hT (yt i v hi hv)).1 (by decide)))) (hk _ (lt ((y6 i v hi hv).tags hT (yt i v hi hv)).2 (by decide)) (nin_tag (tl := [1, 20]) tg ((y6 i v hi hv).tags hT (yt i v hi hv)).2 rfl (lt ((y6 i v hi hv).tags hT (yt i v hi hv)).2 (by decide)))))
    · obtain ⟨ok, v, hv, hV⟩ := g10 i hi
      have tv := RCV.tag hT tx g1 g9 (by omega) hv
      obtain ⟨s1, s2, s3, s4, s5, s6, s7, s8, s9, s10, s11⟩ := hV.tags hT tv
      have hq := y6 i v (by omega) (RFA_fun g9 y2 (by omega) hv)
      obtain ⟨t7, t12⟩ := hq.tags hT tv
      obtain ⟨pz, lz, gz, Lz, gr, f0, f1, f9, f14, f15, a7, a12, hlz, hgz⟩ := hq
      obtain ⟨gl, v15, hP0⟩ := hV
      cases FE_fun f0 (FE_at (k := 0) (hP0 0 _ rfl) rfl (by decide) rfl)
      cases FE_fun f1 (FE_at (k := 1) (hP0 0 _ rfl) rfl (by decide) rfl)
      have ez : gz = gl := Value.int.inj (FE_fun f14 (FE_at (k := 14) (hP0 0 _ rfl) rfl (by decide) rfl))
      have e15 : v15 = v + 12 := (Value.ref.inj (FE_fun f15 (FE_at (k := 15) (hP0 0 _ rfl) rfl (by decide) rfl))).symm
      rw [ez] at hgz f14
      rw [e15] at hP0
      have el : tN (nI (V i).lc) = (V i).lc := tN_nI (by have := ok.2.1; omega)
      have ep2 : tN (nI (V i).p) = (V i).p := tN_nI (by have := ok.1; omega)
      rw [el, ep2] at hgz
      have hgw : GLW (V i).L (V i).lc (V i).p gl gr := glw_cong (fun l hl => by
        have := ok.2.1
        exact ⟨(AT_fun a7 (hP0 7 _ rfl) (by omega)).2, (AT_fun a7 (hP0 7 _ rfl) (by omega)).2, (AT_fun a7 (hP0 7 _ rfl) (by omega)).2⟩) (fun _ _ => rfl) hgz
      have ok0 := ok
      obtain ⟨ok1, ok2, ok3, ok4⟩ := ok
      refine ⟨5, _, _, by decide, K_X11_down1 l g x0 t0 va pa c3 c4 c5 c6 c7 c8 c9 sp nv np cc fA i v (v + 1) (v + 2) (v + 3) (v + 4) (v + 5) (v + 6) (v + 7) (v + 8) (v + 9) (v + 10) (v + 11) (v + 12) (nI (V i).p) (V i).lc (V i).de gl (V i).L (kx (V i)) (V i).p p1 p2 hi hnv hv ok2 ok1 ok3, vaP_cons A0 (vaP_cons g9 (vaP_cons (hP0 0 _ rfl) (vaP_cons (hP0 7 _ rfl) (vaP_cons (hP0 8 _ rfl) vaP_nil)))), D_tags (tl := [1, 20, 3, 25, 26]) (by show [Γ x0, Γ va, Γ v, Γ (v + 7), Γ (v + 8)] = _; rw [tx, ea, tv, s7, s8]) (by decide) (by decide), fun x u H1 hp hP hz hk hT1 hun => ?_⟩
      obtain ⟨rfl, rfl⟩ := hp
      refine RYK.fin (fB := yfA) (FE_at (k := 1) (hP 0 _ rfl) rfl (by decide) rfl) (hP 1 _ rfl) (FE_at (k := 10) (hP 0 _ rfl) rfl (by decide) rfl) (FE_kept y4 (hk _ (lt tsp (by decide)) (nin_ne (al := [x0, va, v, (v + 7), (v + 8)]) rfl (all_cons (nt_ne tx tsp (by decide)) (all_cons (nt_ne ea tsp (by decide)) (all_cons (nt_ne tv tsp (by decide)) (all_cons (nt_ne s7 tsp (by decide)) (all_cons (nt_ne s8 tsp (by decide)) (all_nil)))))) (lt tsp (by decide))))) (FE_kept y5 (hk _ (lt tsp (by decide)) (nin_ne (al := [x0, va, v, (v + 7), (v + 8)]) rfl (all_cons (nt_ne tx tsp (by decide)) (all_cons (nt_ne ea tsp (by decide)) (all_cons (nt_ne tv tsp (by decide)) (all_cons (nt_ne s7 tsp (by decide)) (all_cons (nt_ne s8 tsp (by decide)) (all_nil)))))) (lt tsp (by decide))))) (fun i v hi hv => RFA_fun g9 y2 hi hv) (fun j w hj hw => ?_)
      by_cases hne : w = v
      · rw [hne]
        exact ⟨_, _, gl, _, gr, FE_at (k := 0) (hP 2 _ rfl) rfl (by decide) rfl, FE_at (k := 1) (hP 2 _ rfl) rfl (by decide) rfl, FE_at (k := 9) (hP 2 _ rfl) rfl (by decide) rfl, FE_at (k := 14) (hP 2 _ rfl) rfl (by decide) rfl, FE_at (k := 15) (hP 2 _ rfl) rfl (by decide) rfl, hP 3 _ rfl, va_at.kept a12 (hk _ (lt t12 (by decide)) (nin_tag (tl := [1, 20, 3, 25, 26]) (by show [Γ x0, Γ va, Γ v, Γ (v + 7), Γ (v + 8)] = _; rw [tx, ea, tv, s7, s8]) t12 rfl (lt t12 (by decide)))), by rw [el]; exact ok2, by rw [el, ep2]; exact glw_cong (fun l _ => dn_cols l) (fun _ _ => rfl) hgw⟩
      · have tw := yt j w hj hw
        have q9 := y6 j w hj hw
        obtain ⟨tw7, tw12⟩ := q9.tags hT tw
        exact q9.same (hk _ (lt tw (by decide)) (nin_ne (al := [x0, va, v, (v + 7), (v + 8)]) rfl (all_cons (nt_ne tx tw (by decide)) (all_cons (nt_ne ea tw (by decide)) (all_cons (fun q => hne q.symm) (all_cons (nt_ne s7 tw (by decide)) (all_cons (nt_ne s8 tw (by decide)) (all_nil)))))) (lt tw (by decide)))) (hk _ (lt tw7 (by decide)) (nin_ne (al := [x0, va, v, (v + 7), (v + 8)]) rfl (all_cons (nt_ne tx tw7 (by decide)) (all_cons (nt_ne ea tw7 (by decide)) (all_cons (nt_ne tv tw7 (by decide)) (all_cons (by omega) (all_cons (nt_ne s8 tw7 (by decide)) (all_nil)))))) (lt tw7 (by decide)))) (hk _ (lt tw12 (by decide)) (nin_ne (al := [x0, va, v, (v + 7), (v + 8)]) rfl (all_cons (nt_ne tx tw12 (by decide)) (all_cons (nt_ne ea tw12 (by decide)) (all_cons (nt_ne tv tw12 (by decide)) (all_cons (nt_ne s7 tw12 (by decide)) (all_cons (nt_ne s8 tw12 (by decide)) (all_nil)))))) (lt tw12 (by decide))))

theorem fw_face {al0 gl : Int32} {w0 : Value} {v : Nat} {kn gr : Nat → Int32} {w : VV} (ok : VOK w) (h : GLW w.L w.lc w.p gl gr) : (F_X11_fewest1 al0 w0 v w.p w.lc gl kn gr w.L).1 = fwA w ∧ GLW w.L w.lc w.p (F_X11_fewest1 al0 w0 v w.p w.lc gl kn gr w.L).2.2.2.2.2 (F_X11_fewest1 al0 w0 v w.p w.lc gl kn gr w.L).2.2.2.2.1 := by
  obtain ⟨a, b, c⟩ := fc_gl (v := v) (al0 := al0) (w0 := w0) (kn := kn) ok.2.1 ok.1 ok.2.2.1 h
  exact ⟨a, Or.inr ⟨b, c⟩⟩
theorem go_face {al0 gl y : Int32} {w0 : Value} {v : Nat} {kn gr : Nat → Int32} {w : VV} (ok : VOK w) (h : GLW w.L w.lc w.p gl gr) : (F_X11_gossip1 al0 w0 v w.p w.lc gl kn gr w.L y).1 = goA w y ∧ GLW w.L w.lc w.p (F_X11_gossip1 al0 w0 v w.p w.lc gl kn gr w.L y).2.2.2.2.2 (F_X11_gossip1 al0 w0 v w.p w.lc gl kn gr w.L y).2.2.2.2.1 := by
  obtain ⟨a, b, c⟩ := fc_gl (v := v) (al0 := al0) (w0 := w0) (kn := kn) ok.2.1 ok.1 ok.2.2.1 h
  have h7 := (fw_rng (lc := w.lc) ok.1 ok.2.2.1).1
  unfold F_X11_gossip1 goA
  by_cases c1 : y < 0
  · rw [if_pos c1, if_pos c1]
    exact ⟨rfl, h⟩
  · rw [if_neg c1, if_neg c1, a]
    by_cases c2 : y < fwN w.L w.lc w.p
    · rw [if_pos c2, if_neg fun q : fwA w ≤ y => absurd c2 (Int32.not_lt.mpr q)]
      have hy := tN_in (n := 7) (by omega) (Int32.not_lt.mp c1) (Int32.lt_of_lt_of_le c2 h7)
      exact ⟨c (tN y) hy.2 (by rw [← hy.1]; exact c2), Or.inr ⟨b, c⟩⟩
    · rw [if_neg c2, if_pos (show fwA w ≤ y from Int32.not_lt.mp c2)]
      exact ⟨rfl, Or.inr ⟨b, c⟩⟩
set_option maxHeartbeats 8000000 in
theorem E11_fewestP {l : Launch} {g : GG} {Γ : Nat → Nat} {x0 n nv np : Nat} {fb : Nat → Int32} {V : Nat → VV} (hU : UQ TS0 Γ) (hnv : nv ≤ 10) (tx : Γ x0 = 1) (p0 : Int32) : EX l g yX11_fewest cX11_fewest 3 (some .int) pX11_fewest_0 Γ [.ref x0, .int p0] (fun H => RC1 g x0 n fb nv np H ∧ RCV g x0 nv V H ∧ RYK g x0 H) (fun _ v H1 => v = .int (vAns nv V p0 (-1) (fun w => fwA w)) ∧ RYK g x0 H1) :=
  EX_of (SX11_fewest_0 l g) hU ⟨av_ref tx (by decide), avi_top _, trivial⟩ rfl fun H hT hR => by
    obtain ⟨hC, hD, hRY⟩ := hR
    have hR := And.intro hC hD
    obtain ⟨hR, va, fA, sp, g1, g9, g10, g14, g15, g16, g17⟩ := hR
    obtain ⟨t0, tq, va', pa, sp', fA', fB, ⟨e0, eq, ea, ep, es⟩, h0, h1, h2, h3, h4, h5, h6, h7, h8, -, -, -, -, h13⟩ := hR.tags hT tx
    cases FE_fun g1 h1
    cases FE_fun g15 h3
    obtain ⟨c3, c4, c5, c6, c7, c8, c9, cc, A0⟩ := DV1 hT tx h0 h1 h2 h3 h4 h5
    obtain ⟨yva, yfA, ysp, y1, y2, y3, y4, y5, y6⟩ := hRY
    have tva := (ref_tag (k := 1) (u := 20) hT tx (by decide) rfl rfl y1).1
    have tsp := (ref_tag (k := 10) (u := 13) hT tx (by decide) rfl rfl y3).1
    have yt := fun i v (hi : i < 10) (hv : yfA i = some v) => RYK.vt hT tx y1 y2 hi hv
    cases FE_fun y1 (FE_at (k := 1) A0 rfl (by decide) rfl)
    cases FE_fun y3 (FE_at (k := 10) A0 rfl (by decide) rfl)
    have lt : ∀ {q t : Nat}, Γ q = t → t ≠ 0 → q < H.size := fun h h0 => hT.lt (by rw [h]; exact h0)
    rcases vin_cases (n := nv) (by omega) p0 with hb | ⟨i, hi, rfl⟩
    · have tg : [Γ x0, Γ va] = [1, 20] := by rw [tx, ea]
      refine ⟨1, _, _, by decide, K_X11_fewest0 l g x0 t0 va pa c3 c4 c5 c6 c7 c8 c9 sp nv np cc fA p0 hb, vaP_cons A0 (vaP_cons g9 vaP_nil), D_tags (tl := [1, 20]) tg (by decide) (by decide), fun x u H1 hp hP hz hk hT1 hun => ?_⟩
      obtain ⟨hx, rfl⟩ := hp
      exact ⟨by rw [hx, vAns_no hb]; rfl, RYK.fin (fB := yfA) (FE_at (k := 1) (hP 0 _ rfl) rfl (by decide) rfl) (hP 1 _ rfl) (FE_at (k := 10) (hP 0 _ rfl) rfl (by decide) rfl) (FE_kept y4 (hk _ (lt tsp (by decide)) (nin_tag (tl := [1, 20]) tg tsp rfl (lt tsp (by decide))))) (FE_kept y5 (hk _ (lt tsp (by decide)) (nin_tag (tl := [1, 20]) tg tsp rfl (lt tsp (by decide))))) (fun i v hi hv => RFA_fun g9 y2 hi hv) (fun i v hi hv => (y6 i v hi hv).same (hk _ (lt (yt i v hi hv) (by decide)) (nin_tag (tl := [1, 20]) tg (yt i v hi hv) rfl (lt (yt i v hi hv) (by decide)))) (hk _ (lt ((y6 i v hi hv).tags hT (yt i v hi hv)).1 (by decide)) (nin_tag (tl := [1, 20]) tg ((y6 i v hi hv).tags hT (yt i v hi hv)).1 rfl (lt ((y6 i v hi hv).tags hT (yt i v hi hv)).1 (by decide)))) (hk _ (lt ((y6 i v hi hv).tags hT (yt i v hi hv)).2 (by decide)) (nin_tag (tl := [1, 20]) tg ((y6 i v hi hv).tags hT (yt i v hi hv)).2 rfl (lt ((y6 i v hi hv).tags hT (yt i v hi hv)).2 (by decide)))))⟩
    · obtain ⟨ok, v, hv, hV⟩ := g10 i hi
      have tv := RCV.tag hT tx g1 g9 (by omega) hv
      obtain ⟨s1, s2, s3, s4, s5, s6, s7, s8, s9, s10, s11⟩ := hV.tags hT tv
      have hq := y6 i v (by omega) (RFA_fun g9 y2 (by omega) hv)
      obtain ⟨t7, t12⟩ := hq.tags hT tv
      obtain ⟨pz, lz, gz, Lz, gr, f0, f1, f9, f14, f15, a7, a12, hlz, hgz⟩ := hq
      obtain ⟨gl, v15, hP0⟩ := hV
      cases FE_fun f0 (FE_at (k := 0) (hP0 0 _ rfl) rfl (by decide) rfl)
      cases FE_fun f1 (FE_at (k := 1) (hP0 0 _ rfl) rfl (by decide) rfl)
      have ez : gz = gl := Value.int.inj (FE_fun f14 (FE_at (k := 14) (hP0 0 _ rfl) rfl (by decide) rfl))
      have e15 : v15 = v + 12 := (Value.ref.inj (FE_fun f15 (FE_at (k := 15) (hP0 0 _ rfl) rfl (by decide) rfl))).symm
      rw [ez] at hgz f14
      rw [e15] at hP0
      have el : tN (nI (V i).lc) = (V i).lc := tN_nI (by have := ok.2.1; omega)
      have ep2 : tN (nI (V i).p) = (V i).p := tN_nI (by have := ok.1; omega)
      rw [el, ep2] at hgz
      have hgw : GLW (V i).L (V i).lc (V i).p gl gr := glw_cong (fun l hl => by
        have := ok.2.1
        exact ⟨(AT_fun a7 (hP0 7 _ rfl) (by omega)).2, (AT_fun a7 (hP0 7 _ rfl) (by omega)).2, (AT_fun a7 (hP0 7 _ rfl) (by omega)).2⟩) (fun _ _ => rfl) hgz
      have t9 := (ref_tag (k := 6) (u := 9) hT tx (by decide) rfl rfl (FE_at (k := 6) A0 rfl (by decide) rfl)).1
      obtain ⟨w0, al0, kk, A9, -, t48⟩ := DV9 hT t9
      obtain ⟨kn, B48⟩ := ints_of hT t48 (by decide) rfl
      obtain ⟨ax, gx⟩ := fw_face (al0 := al0) (w0 := w0) (v := v) (kn := kn) ok hgw
      refine ⟨16, _, _, by decide, K_X11_fewest1 l g x0 t0 va pa c3 c4 c5 c6 c7 c8 c9 sp nv np cc fA i al0 kk w0 v (v + 1) (v + 2) (v + 3) (v + 4) (v + 5) (v + 6) (v + 7) (v + 8) (v + 9) (v + 10) (v + 11) (v + 12) (V i).p (V i).lc (V i).de gl kn gr (V i).L hi hnv hv ok.2.1 ok.1 ok.2.2.1, vaP_cons A0 (vaP_cons g9 (vaP_cons A9 (vaP_cons B48 (vaP_cons (hP0 0 _ rfl) (vaP_cons (hP0 7 _ rfl) (vaP_cons a12 vaP_nil)))))), D_keys (K := fun u => Γ u) (tl := [1, 20, 9, 48, 3, 25, 30]) (by
        show [Γ x0, Γ va, Γ c6, Γ kk, Γ v, Γ (v + 7), Γ (v + 12)] = _
        rw [(show Γ x0 = 1 by rw [tx]), (show Γ va = 20 by rw [ea]), (show Γ c6 = 9 by rw [t9]), (show Γ kk = 48 by rw [t48]), (show Γ v = 3 by rw [tv]), (show Γ (v + 7) = 25 by rw [s7]), (show Γ (v + 12) = 30 by rw [t12])]) (by decide) (by
        intro k w hw
        match k, hw with
        | 0, hw => cases hw; show Γ x0 ≠ 0; rw [tx]; decide
        | 1, hw => cases hw; show Γ va ≠ 0; rw [ea]; decide
        | 2, hw => cases hw; show Γ c6 ≠ 0; rw [t9]; decide
        | 3, hw => cases hw; show Γ kk ≠ 0; rw [t48]; decide
        | 4, hw => cases hw; show Γ v ≠ 0; rw [tv]; decide
        | 5, hw => cases hw; show Γ (v + 7) ≠ 0; rw [s7]; decide
        | 6, hw => cases hw; show Γ (v + 12) ≠ 0; rw [t12]; decide
        | k + 7, hw => cases hw), fun x u H1 hp hP hz hk hT1 hun => ?_⟩
      obtain ⟨hx, rfl⟩ := hp
      refine ⟨congrArg Value.int (hx.trans (ax.trans (vAns_ok (no := -1) (f := fun w => fwA w) hnv hi).symm)), ?_⟩
      generalize F_X11_fewest1 al0 w0 v (V i).p (V i).lc gl kn gr (V i).L = U at gx hP
      refine RYK.fin (fB := yfA) (FE_at (k := 1) (hP 0 _ rfl) rfl (by decide) rfl) (hP 1 _ rfl) (FE_at (k := 10) (hP 0 _ rfl) rfl (by decide) rfl) (FE_kept y4 (hk _ (lt tsp (by decide)) (nin_ne (al := [x0, va, c6, kk, v, (v + 7), (v + 12)]) rfl (all_cons (nt_ne tx tsp (by decide)) (all_cons (nt_ne ea tsp (by decide)) (all_cons (nt_ne t9 tsp (by decide)) (all_cons (nt_ne t48 tsp (by decide)) (all_cons (nt_ne tv tsp (by decide)) (all_cons (nt_ne s7 tsp (by decide)) (all_cons (nt_ne t12 tsp (by decide)) (all_nil)))))))) (lt tsp (by decide))))) (FE_kept y5 (hk _ (lt tsp (by decide)) (nin_ne (al := [x0, va, c6, kk, v, (v + 7), (v + 12)]) rfl (all_cons (nt_ne tx tsp (by decide)) (all_cons (nt_ne ea tsp (by decide)) (all_cons (nt_ne t9 tsp (by decide)) (all_cons (nt_ne t48 tsp (by decide)) (all_cons (nt_ne tv tsp (by decide)) (all_cons (nt_ne s7 tsp (by decide)) (all_cons (nt_ne t12 tsp (by decide)) (all_nil)))))))) (lt tsp (by decide))))) (fun i v hi hv => RFA_fun g9 y2 hi hv) (fun j w hj hw => ?_)
      by_cases hne : w = v
      · rw [hne]
        exact ⟨_, _, _, _, _, FE_at (k := 0) (hP 4 _ rfl) rfl (by decide) rfl, FE_at (k := 1) (hP 4 _ rfl) rfl (by decide) rfl, FE_at (k := 9) (hP 4 _ rfl) rfl (by decide) rfl, FE_at (k := 14) (hP 4 _ rfl) rfl (by decide) rfl, FE_at (k := 15) (hP 4 _ rfl) rfl (by decide) rfl, hP 5 _ rfl, hP 6 _ rfl, by rw [el]; exact ok.2.1, by rw [el, ep2]; exact gx⟩
      · have tw := yt j w hj hw
        have q9 := y6 j w hj hw
        obtain ⟨tw7, tw12⟩ := q9.tags hT tw
        exact q9.same (hk _ (lt tw (by decide)) (nin_ne (al := [x0, va, c6, kk, v, (v + 7), (v + 12)]) rfl (all_cons (nt_ne tx tw (by decide)) (all_cons (nt_ne ea tw (by decide)) (all_cons (nt_ne t9 tw (by decide)) (all_cons (nt_ne t48 tw (by decide)) (all_cons (fun q => hne q.symm) (all_cons (nt_ne s7 tw (by decide)) (all_cons (nt_ne t12 tw (by decide)) (all_nil)))))))) (lt tw (by decide)))) (hk _ (lt tw7 (by decide)) (nin_ne (al := [x0, va, c6, kk, v, (v + 7), (v + 12)]) rfl (all_cons (nt_ne tx tw7 (by decide)) (all_cons (nt_ne ea tw7 (by decide)) (all_cons (nt_ne t9 tw7 (by decide)) (all_cons (nt_ne t48 tw7 (by decide)) (all_cons (nt_ne tv tw7 (by decide)) (all_cons (by omega) (all_cons (nt_ne t12 tw7 (by decide)) (all_nil)))))))) (lt tw7 (by decide)))) (hk _ (lt tw12 (by decide)) (nin_ne (al := [x0, va, c6, kk, v, (v + 7), (v + 12)]) rfl (all_cons (nt_ne tx tw12 (by decide)) (all_cons (nt_ne ea tw12 (by decide)) (all_cons (nt_ne t9 tw12 (by decide)) (all_cons (nt_ne t48 tw12 (by decide)) (all_cons (nt_ne tv tw12 (by decide)) (all_cons (nt_ne s7 tw12 (by decide)) (all_cons (by omega) (all_nil)))))))) (lt tw12 (by decide))))

set_option maxHeartbeats 8000000 in
theorem E11_gossipP {l : Launch} {g : GG} {Γ : Nat → Nat} {x0 n nv np : Nat} {fb : Nat → Int32} {V : Nat → VV} (hU : UQ TS0 Γ) (hnv : nv ≤ 10) (tx : Γ x0 = 1) (p0 : Int32) (p1 : Int32) : EX l g yX11_gossip cX11_gossip 4 (some .int) pX11_gossip_0 Γ [.ref x0, .int p0, .int p1] (fun H => RC1 g x0 n fb nv np H ∧ RCV g x0 nv V H ∧ RYK g x0 H) (fun _ v H1 => v = .int (vAns nv V p0 (-1) (fun w => goA w p1)) ∧ RYK g x0 H1) :=
  EX_of (SX11_gossip_0 l g) hU ⟨av_ref tx (by decide), avi_top _, avi_top _, trivial⟩ rfl fun H hT hR => by
    obtain ⟨hC, hD, hRY⟩ := hR
    have hR := And.intro hC hD
    obtain ⟨hR, va, fA, sp, g1, g9, g10, g14, g15, g16, g17⟩ := hR
    obtain ⟨t0, tq, va', pa, sp', fA', fB, ⟨e0, eq, ea, ep, es⟩, h0, h1, h2, h3, h4, h5, h6, h7, h8, -, -, -, -, h13⟩ := hR.tags hT tx
    cases FE_fun g1 h1
    cases FE_fun g15 h3
    obtain ⟨c3, c4, c5, c6, c7, c8, c9, cc, A0⟩ := DV1 hT tx h0 h1 h2 h3 h4 h5
    obtain ⟨yva, yfA, ysp, y1, y2, y3, y4, y5, y6⟩ := hRY
    have tva := (ref_tag (k := 1) (u := 20) hT tx (by decide) rfl rfl y1).1
    have tsp := (ref_tag (k := 10) (u := 13) hT tx (by decide) rfl rfl y3).1
    have yt := fun i v (hi : i < 10) (hv : yfA i = some v) => RYK.vt hT tx y1 y2 hi hv
    cases FE_fun y1 (FE_at (k := 1) A0 rfl (by decide) rfl)
    cases FE_fun y3 (FE_at (k := 10) A0 rfl (by decide) rfl)
    have lt : ∀ {q t : Nat}, Γ q = t → t ≠ 0 → q < H.size := fun h h0 => hT.lt (by rw [h]; exact h0)
    rcases vin_cases (n := nv) (by omega) p0 with hb | ⟨i, hi, rfl⟩
    · have tg : [Γ x0, Γ va] = [1, 20] := by rw [tx, ea]
      refine ⟨1, _, _, by decide, K_X11_gossip0 l g x0 t0 va pa c3 c4 c5 c6 c7 c8 c9 sp nv np cc fA p0 p1 hb, vaP_cons A0 (vaP_cons g9 vaP_nil), D_tags (tl := [1, 20]) tg (by decide) (by decide), fun x u H1 hp hP hz hk hT1 hun => ?_⟩
      obtain ⟨hx, rfl⟩ := hp
      exact ⟨by rw [hx, vAns_no hb]; rfl, RYK.fin (fB := yfA) (FE_at (k := 1) (hP 0 _ rfl) rfl (by decide) rfl) (hP 1 _ rfl) (FE_at (k := 10) (hP 0 _ rfl) rfl (by decide) rfl) (FE_kept y4 (hk _ (lt tsp (by decide)) (nin_tag (tl := [1, 20]) tg tsp rfl (lt tsp (by decide))))) (FE_kept y5 (hk _ (lt tsp (by decide)) (nin_tag (tl := [1, 20]) tg tsp rfl (lt tsp (by decide))))) (fun i v hi hv => RFA_fun g9 y2 hi hv) (fun i v hi hv => (y6 i v hi hv).same (hk _ (lt (yt i v hi hv) (by decide)) (nin_tag (tl := [1, 20]) tg (yt i v hi hv) rfl (lt (yt i v hi hv) (by decide)))) (hk _ (lt ((y6 i v hi hv).tags hT (yt i v hi hv)).1 (by decide)) (nin_tag (tl := [1, 20]) tg ((y6 i v hi hv).tags hT (yt i v hi hv)).1 rfl (lt ((y6 i v hi hv).tags hT (yt i v hi hv)).1 (by decide)))) (hk _ (lt ((y6 i v hi hv).tags hT (yt i v hi hv)).2 (by decide)) (nin_tag (tl := [1, 20]) tg ((y6 i v hi hv).tags hT (yt i v hi hv)).2 rfl (lt ((y6 i v hi hv).tags hT (yt i v hi hv)).2 (by decide)))))⟩
    · obtain ⟨ok, v, hv, hV⟩ := g10 i hi
      have tv := RCV.tag hT tx g1 g9 (by omega) hv
      obtain ⟨s1, s2, s3, s4, s5, s6, s7, s8, s9, s10, s11⟩ := hV.tags hT tv
      have hq := y6 i v (by omega) (RFA_fun g9 y2 (by omega) hv)
      obtain ⟨t7, t12⟩ := hq.tags hT tv
      obtain ⟨pz, lz, gz, Lz, gr, f0, f1, f9, f14, f15, a7, a12, hlz, hgz⟩ := hq
      obtain ⟨gl, v15, hP0⟩ := hV
      cases FE_fun f0 (FE_at (k := 0) (hP0 0 _ rfl) rfl (by decide) rfl)
      cases FE_fun f1 (FE_at (k := 1) (hP0 0 _ rfl) rfl (by decide) rfl)
      have ez : gz = gl := Value.int.inj (FE_fun f14 (FE_at (k := 14) (hP0 0 _ rfl) rfl (by decide) rfl))
      have e15 : v15 = v + 12 := (Value.ref.inj (FE_fun f15 (FE_at (k := 15) (hP0 0 _ rfl) rfl (by decide) rfl))).symm
      rw [ez] at hgz f14
      rw [e15] at hP0
      have el : tN (nI (V i).lc) = (V i).lc := tN_nI (by have := ok.2.1; omega)
      have ep2 : tN (nI (V i).p) = (V i).p := tN_nI (by have := ok.1; omega)
      rw [el, ep2] at hgz
      have hgw : GLW (V i).L (V i).lc (V i).p gl gr := glw_cong (fun l hl => by
        have := ok.2.1
        exact ⟨(AT_fun a7 (hP0 7 _ rfl) (by omega)).2, (AT_fun a7 (hP0 7 _ rfl) (by omega)).2, (AT_fun a7 (hP0 7 _ rfl) (by omega)).2⟩) (fun _ _ => rfl) hgz
      have t9 := (ref_tag (k := 6) (u := 9) hT tx (by decide) rfl rfl (FE_at (k := 6) A0 rfl (by decide) rfl)).1
      obtain ⟨w0, al0, kk, A9, -, t48⟩ := DV9 hT t9
      obtain ⟨kn, B48⟩ := ints_of hT t48 (by decide) rfl
      obtain ⟨ax, gx⟩ := go_face (al0 := al0) (w0 := w0) (v := v) (kn := kn) (y := p1) ok hgw
      refine ⟨16, _, _, by decide, K_X11_gossip1 l g x0 t0 va pa c3 c4 c5 c6 c7 c8 c9 sp nv np cc fA i al0 kk w0 v (v + 1) (v + 2) (v + 3) (v + 4) (v + 5) (v + 6) (v + 7) (v + 8) (v + 9) (v + 10) (v + 11) (v + 12) (V i).p (V i).lc (V i).de gl kn gr (V i).L p1 hi hnv hv ok.2.1 ok.1 ok.2.2.1 (gl_7 ok.1 ok.2.2.1 hgw), vaP_cons A0 (vaP_cons g9 (vaP_cons A9 (vaP_cons B48 (vaP_cons (hP0 0 _ rfl) (vaP_cons (hP0 7 _ rfl) (vaP_cons a12 vaP_nil)))))), D_keys (K := fun u => Γ u) (tl := [1, 20, 9, 48, 3, 25, 30]) (by
        show [Γ x0, Γ va, Γ c6, Γ kk, Γ v, Γ (v + 7), Γ (v + 12)] = _
        rw [(show Γ x0 = 1 by rw [tx]), (show Γ va = 20 by rw [ea]), (show Γ c6 = 9 by rw [t9]), (show Γ kk = 48 by rw [t48]), (show Γ v = 3 by rw [tv]), (show Γ (v + 7) = 25 by rw [s7]), (show Γ (v + 12) = 30 by rw [t12])]) (by decide) (by
        intro k w hw
        match k, hw with
        | 0, hw => cases hw; show Γ x0 ≠ 0; rw [tx]; decide
        | 1, hw => cases hw; show Γ va ≠ 0; rw [ea]; decide
        | 2, hw => cases hw; show Γ c6 ≠ 0; rw [t9]; decide
        | 3, hw => cases hw; show Γ kk ≠ 0; rw [t48]; decide
        | 4, hw => cases hw; show Γ v ≠ 0; rw [tv]; decide
        | 5, hw => cases hw; show Γ (v + 7) ≠ 0; rw [s7]; decide
        | 6, hw => cases hw; show Γ (v + 12) ≠ 0; rw [t12]; decide
        | k + 7, hw => cases hw), fun x u H1 hp hP hz hk hT1 hun => ?_⟩
      obtain ⟨hx, rfl⟩ := hp
      refine ⟨congrArg Value.int (hx.trans (ax.trans (vAns_ok (no := -1) (f := fun w => goA w p1) hnv hi).symm)), ?_⟩
      generalize F_X11_gossip1 al0 w0 v (V i).p (V i).lc gl kn gr (V i).L p1 = U at gx hP
      refine RYK.fin (fB := yfA) (FE_at (k := 1) (hP 0 _ rfl) rfl (by decide) rfl) (hP 1 _ rfl) (FE_at (k := 10) (hP 0 _ rfl) rfl (by decide) rfl) (FE_kept y4 (hk _ (lt tsp (by decide)) (nin_ne (al := [x0, va, c6, kk, v, (v + 7), (v + 12)]) rfl (all_cons (nt_ne tx tsp (by decide)) (all_cons (nt_ne ea tsp (by decide)) (all_cons (nt_ne t9 tsp (by decide)) (all_cons (nt_ne t48 tsp (by decide)) (all_cons (nt_ne tv tsp (by decide)) (all_cons (nt_ne s7 tsp (by decide)) (all_cons (nt_ne t12 tsp (by decide)) (all_nil)))))))) (lt tsp (by decide))))) (FE_kept y5 (hk _ (lt tsp (by decide)) (nin_ne (al := [x0, va, c6, kk, v, (v + 7), (v + 12)]) rfl (all_cons (nt_ne tx tsp (by decide)) (all_cons (nt_ne ea tsp (by decide)) (all_cons (nt_ne t9 tsp (by decide)) (all_cons (nt_ne t48 tsp (by decide)) (all_cons (nt_ne tv tsp (by decide)) (all_cons (nt_ne s7 tsp (by decide)) (all_cons (nt_ne t12 tsp (by decide)) (all_nil)))))))) (lt tsp (by decide))))) (fun i v hi hv => RFA_fun g9 y2 hi hv) (fun j w hj hw => ?_)
      by_cases hne : w = v
      · rw [hne]
        exact ⟨_, _, _, _, _, FE_at (k := 0) (hP 4 _ rfl) rfl (by decide) rfl, FE_at (k := 1) (hP 4 _ rfl) rfl (by decide) rfl, FE_at (k := 9) (hP 4 _ rfl) rfl (by decide) rfl, FE_at (k := 14) (hP 4 _ rfl) rfl (by decide) rfl, FE_at (k := 15) (hP 4 _ rfl) rfl (by decide) rfl, hP 5 _ rfl, hP 6 _ rfl, by rw [el]; exact ok.2.1, by rw [el, ep2]; exact gx⟩
      · have tw := yt j w hj hw
        have q9 := y6 j w hj hw
        obtain ⟨tw7, tw12⟩ := q9.tags hT tw
        exact q9.same (hk _ (lt tw (by decide)) (nin_ne (al := [x0, va, c6, kk, v, (v + 7), (v + 12)]) rfl (all_cons (nt_ne tx tw (by decide)) (all_cons (nt_ne ea tw (by decide)) (all_cons (nt_ne t9 tw (by decide)) (all_cons (nt_ne t48 tw (by decide)) (all_cons (fun q => hne q.symm) (all_cons (nt_ne s7 tw (by decide)) (all_cons (nt_ne t12 tw (by decide)) (all_nil)))))))) (lt tw (by decide)))) (hk _ (lt tw7 (by decide)) (nin_ne (al := [x0, va, c6, kk, v, (v + 7), (v + 12)]) rfl (all_cons (nt_ne tx tw7 (by decide)) (all_cons (nt_ne ea tw7 (by decide)) (all_cons (nt_ne t9 tw7 (by decide)) (all_cons (nt_ne t48 tw7 (by decide)) (all_cons (nt_ne tv tw7 (by decide)) (all_cons (by omega) (all_cons (nt_ne t12 tw7 (by decide)) (all_nil)))))))) (lt tw7 (by decide)))) (hk _ (lt tw12 (by decide)) (nin_ne (al := [x0, va, c6, kk, v, (v + 7), (v + 12)]) rfl (all_cons (nt_ne tx tw12 (by decide)) (all_cons (nt_ne ea tw12 (by decide)) (all_cons (nt_ne t9 tw12 (by decide)) (all_cons (nt_ne t48 tw12 (by decide)) (all_cons (nt_ne tv tw12 (by decide)) (all_cons (nt_ne s7 tw12 (by decide)) (all_cons (by omega) (all_nil)))))))) (lt tw12 (by decide))))

section
variable {nv : Nat} {V : Nat → VV} {F : Nat → Nat → Int32} {tH gR lW : Nat → Int32}
theorem fw_val {L : Nat → Int32} {lc pe : Nat} (hpe : pe ≤ 7) (hE : endsIn L lc pe) : fwN L lc pe = -1 ∨ ∃ n : Nat, n < 8 ∧ fwN L lc pe = nI n := by
  unfold fwN
  by_cases c1 : 5 < nI pe
  · exact Or.inl (if_pos c1)
  · rw [if_neg c1]
    by_cases c2 : holds L lc pe = 0
    · exact Or.inl (if_pos c2)
    · rw [if_neg c2]
      have h5 : pe ≤ 5 := Nat.le_of_not_lt fun q9 => c1 ((nI_ltI (a := 5) (b := pe) (by omega) (by omega)).mpr q9)
      have h := (gN_at h5 hE c2).2.2
      have h7 := (lu_at pe (by omega)).2
      exact Or.inr ⟨_, by omega, rfl⟩
theorem in_lt {f y : Int32} (hf : f = -1 ∨ ∃ n : Nat, n < 8 ∧ f = nI n) : F_X12_isIn y 0 (f - 1) = 0 ↔ y < 0 ∨ f ≤ y := by
  unfold F_X12_isIn
  by_cases c1 : y < 0
  · rw [if_pos c1]
    exact ⟨fun _ => Or.inl c1, fun _ => rfl⟩
  · rw [if_neg c1]
    have h0 := Int32.not_lt.mp c1
    rcases hf with rfl | ⟨n, hn, rfl⟩
    · rw [if_pos (Int32.lt_of_lt_of_le (by decide : (-1 : Int32) - 1 < 0) h0)]
      exact ⟨fun _ => Or.inr (Int32.le_trans (by decide : (-1 : Int32) ≤ 0) h0), fun _ => rfl⟩
    · obtain ⟨k, hk, rfl⟩ := nI_of c1
      have e : (nI n - 1 < nI k) ↔ n ≤ k := by
        cases n with
        | zero => exact ⟨fun _ => Nat.zero_le _, fun _ => Int32.lt_of_lt_of_le (by decide : nI 0 - 1 < 0) h0⟩
        | succ n =>
          rw [nI_sub1 (by omega), show n + 1 - 1 = n from rfl]
          exact (nI_ltI (a := n) (b := k) (by omega) (by omega)).trans ⟨fun q => q, fun q => q⟩
      have e2 := nI_leI (a := n) (b := k) (by omega) (by omega)
      by_cases c2 : nI n - 1 < nI k
      · rw [if_pos c2]
        exact ⟨fun _ => Or.inr (e2.mpr (e.mp c2)), fun _ => rfl⟩
      · rw [if_neg c2]
        exact ⟨fun q => absurd q (by decide), fun q => absurd (e.mpr (e2.mp (q.resolve_left c1))) c2⟩
theorem pe_of (hV : RPW nv V F) : ∀ j : Nat, j < nv → F 6 j = nI (tN (F 6 j)) ∧ tN (F 6 j) ≤ 7 := fun j hj => by
  obtain ⟨ok, hr⟩ := hV j hj
  have h := ok.1
  rw [hr.1, tN_nI (by omega)]
  exact ⟨rfl, h⟩
theorem en_of (hV : RPW nv V F) : (∀ j : Nat, j < nv → ∀ l : Nat, l < tN (F 7 j) → F 12 (12 * j + l) = nI (tN (F 12 (12 * j + l))) ∧ tN (F 12 (12 * j + l)) < tN (F 6 j)) ∧ ∀ j : Nat, j < nv → ∀ l : Nat, l < tN (F 7 j) → F 13 (12 * j + l) = nI (tN (F 13 (12 * j + l))) ∧ tN (F 13 (12 * j + l)) < tN (F 6 j) := by
  have key : ∀ j : Nat, j < nv → ∀ l : Nat, l < tN (F 7 j) → (F 12 (12 * j + l) = nI (tN (F 12 (12 * j + l))) ∧ tN (F 12 (12 * j + l)) < tN (F 6 j)) ∧ F 13 (12 * j + l) = nI (tN (F 13 (12 * j + l))) ∧ tN (F 13 (12 * j + l)) < tN (F 6 j) := fun j hj l hl => by
    obtain ⟨ok, hr⟩ := hV j hj
    have h1 := ok.1
    have h2 := ok.2.1
    rw [hr.2.1, tN_nI (by omega)] at hl
    obtain ⟨r12, r13, -⟩ := hr.2.2.2.2.1 l hl
    obtain ⟨a, b, c, d⟩ := ends_at ok.2.2.1 ok.1 hl
    rw [r12, r13, hr.1, tN_nI (k := (V j).p) (by omega)]
    exact ⟨⟨a, c⟩, b, d⟩
  exact ⟨fun j hj l hl => (key j hj l hl).1, fun j hj l hl => (key j hj l hl).2⟩
theorem kp_of (hV : RPW nv V F) (ho : ∀ i : Nat, i < nv → OWB (V i)) {i : Nat} (hi : i < nv) : ∀ (W : Nat → Int32) (n : Nat) (T G : Nat → Int32) (o : Nat), n ≤ 7 → o < 7 → (GP (F 6) (F 12) (F 13) W i (tN (F 7 i)) (tN (F 6 i)) n 0 T G).2.1 o = T o := by
  obtain ⟨ok, hr⟩ := hV i hi
  rw [hr.2.1, hr.1, tN_nI (k := (V i).lc) (by have := ok.2.1; omega), tN_nI (k := (V i).p) (by have := ok.1; omega)]
  exact fun W n T G o hn hoo => gp_keep ok (ho i hi) hr W n T G o hn hoo
theorem fn_of (hV : RPW nv V F) (ho : ∀ i : Nat, i < nv → OWB (V i)) {i : Nat} (hi : i < nv) : ∀ (n : Nat) (T G : Nat → Int32), n ≤ 7 → (∀ o : Nat, o < tN (F 6 i) → T o = (1 : Int32) <<< (nI o &&& 31)) → tN (F 6 i) ≤ 5 → ¬ F_X12_holdsAll (F 6) (F 12) (F 13) (F 17) (tN (F 7 i)) i = 0 → (GP (F 6) (F 12) (F 13) (L1_X12_fewestOf (F 12) (F 13) (F 17) i lW (tN (F 7 i))) i (tN (F 7 i)) (tN (F 6 i)) n 0 T G).1 = 0 → n < 7 := by
  obtain ⟨ok, hr⟩ := hV i hi
  rw [hr.2.1, hr.1, tN_nI (k := (V i).lc) (by have := ok.2.1; omega), tN_nI (k := (V i).p) (by have := ok.1; omega)]
  exact fun n T G h1 h2 h3 h4 h5 => gp_fin ok (ho i hi) hr n T G h1 h2 h3 h4 h5
theorem fo_of (hV : RPW nv V F) (ho : ∀ i : Nat, i < nv → OWB (V i)) {i : Nat} (hi : i < nv) : (F_X12_fewestOf (F 6) (F 12) (F 13) (F 17) tH gR lW i (tN (F 7 i)) (tN (F 6 i))).1 = fwA (V i) ∧ ∀ t : Nat, t < 7 → nI t < fwA (V i) → (F_X12_fewestOf (F 6) (F 12) (F 13) (F 17) tH gR lW i (tN (F 7 i)) (tN (F 6 i))).2.2.1 t = gRw (V i).L (V i).lc (V i).p t := by
  obtain ⟨ok, hr⟩ := hV i hi
  rw [hr.2.1, hr.1, tN_nI (k := (V i).lc) (by have := ok.2.1; omega), tN_nI (k := (V i).p) (by have := ok.1; omega)]
  exact fo_ref ok (ho i hi) hr
theorem go_refM {x y : Int32} (hnv : nv ≤ 10) (hV : RPW nv V F) (ho : ∀ i : Nat, i < nv → OWB (V i)) : (F_X12_gossip nv (F 6) (F 7) (F 12) (F 13) (F 17) tH gR lW x y).1 = vAns nv V x (-1) (fun w => goA w y) := by
  rcases vin_cases (n := nv) (by omega) x with hb | ⟨i, hi, rfl⟩
  · rw [vAns_no hb]
    unfold F_X12_gossip
    rw [if_pos (rv_no hb)]
  · rw [vAns_ok hnv hi]
    unfold F_X12_gossip
    rw [if_neg (rv_yes hnv hi), tN_nI (k := i) (by omega)]
    obtain ⟨a, b⟩ := fo_of (tH := tH) (gR := gR) (lW := lW) hV ho hi
    obtain ⟨ok, hr⟩ := hV i hi
    rw [a]
    have q := in_lt (y := y) (fw_val (lc := (V i).lc) ok.1 ok.2.2.1)
    have q : F_X12_isIn y 0 (fwA (V i) - 1) = 0 ↔ y < 0 ∨ fwA (V i) ≤ y := q
    unfold goA
    by_cases c : F_X12_isIn y 0 (fwA (V i) - 1) = 0
    · rw [if_pos c]
      rcases q.mp c with z | z
      · rw [if_pos z]
      · by_cases z2 : y < 0
        · rw [if_pos z2]
        · rw [if_neg z2, if_pos z]
    · rw [if_neg c]
      have z1 : ¬ y < 0 := fun z => c (q.mpr (Or.inl z))
      have z2 : ¬ fwA (V i) ≤ y := fun z => c (q.mpr (Or.inr z))
      rw [if_neg z1, if_neg z2]
      have h7 := (fw_rng (lc := (V i).lc) ok.1 ok.2.2.1).1
      have hy := tN_in (n := 7) (by omega) (Int32.not_lt.mp z1) (Int32.lt_of_lt_of_le (Int32.not_le.mp z2) h7)
      exact b (tN y) hy.2 (by rw [← hy.1]; exact Int32.not_le.mp z2)
end
set_option maxHeartbeats 8000000 in
theorem E12_gossipP {l : Launch} {g : GG} {Γ : Nat → Nat} {m0 n nv np : Nat} {fb : Nat → Int32} {V : Nat → VV} (hU : UQ TS0 Γ) (hnv : nv ≤ 10) (tm : Γ m0 = 60) (p0 : Int32) (p1 : Int32) : EX l g yX12_gossip cX12_gossip 4 (some .int) pX12_gossip_0 Γ [.ref m0, .int p0, .int p1] (fun H => RR1 g m0 n fb nv np H ∧ RRV g m0 nv V H) (fun _ v _ => v = .int (vAns nv V p0 (-1) (fun w => goA w p1))) :=
  EX_of (SX12_gossip_0 l g) hU ⟨av_ref tm (by decide), avi_top _, avi_top _, trivial⟩ rfl fun H hT hR => by
    obtain ⟨hR, B, F, hB, hV⟩ := hR
    obtain ⟨tr, er, h1, h2, h3, h4, h5⟩ := hR.tags hT tm
    obtain ⟨ws, A0, hv⟩ := h_obj hT (by rw [tm]; decide) ((congrArg TS0.1 tm).trans rfl)
    have hlen := KV_len (KV_of hv)
    have F18 := at_fe (k := 18) A0 rfl (by rw [hlen]; decide) h3
    have how := owb_of hT tm hB hV hnv
    have G6 := at_fe (k := 6) A0 rfl (by rw [hlen]; decide) (hB 6 (by decide)).1
    have G7 := at_fe (k := 7) A0 rfl (by rw [hlen]; decide) (hB 7 (by decide)).1
    have G12 := at_fe (k := 12) A0 rfl (by rw [hlen]; decide) (hB 12 (by decide)).1
    have G13 := at_fe (k := 13) A0 rfl (by rw [hlen]; decide) (hB 13 (by decide)).1
    have G17 := at_fe (k := 17) A0 rfl (by rw [hlen]; decide) (hB 17 (by decide)).1
    have t6 : Γ (B 6) = 62 := (hB.tag hT tm (k := 6) (by decide)).1
    have t7 : Γ (B 7) = 63 := (hB.tag hT tm (k := 7) (by decide)).1
    have t12 : Γ (B 12) = 66 := (hB.tag hT tm (k := 12) (by decide)).1
    have t13 : Γ (B 13) = 122 := (hB.tag hT tm (k := 13) (by decide)).1
    have t17 : Γ (B 17) = 69 := (hB.tag hT tm (k := 17) (by decide)).1
    obtain ⟨w46, G46, a46⟩ := hv.get (k := 46) rfl
    obtain ⟨b46, rfl, t46, -⟩ := avi_ref rfl a46
    have t46 : Γ b46 = 83 := t46
    obtain ⟨tH, B46, -⟩ := h_ints (Or.inr (Or.inl rfl)) hT (by rw [t46]; decide) ((congrArg TS0.1 t46).trans rfl)
    obtain ⟨w47, G47, a47⟩ := hv.get (k := 47) rfl
    obtain ⟨b47, rfl, t47, -⟩ := avi_ref rfl a47
    have t47 : Γ b47 = 84 := t47
    obtain ⟨gR, B47, -⟩ := h_ints (Or.inr (Or.inl rfl)) hT (by rw [t47]; decide) ((congrArg TS0.1 t47).trans rfl)
    obtain ⟨w48, G48, a48⟩ := hv.get (k := 48) rfl
    obtain ⟨b48, rfl, t48, -⟩ := avi_ref rfl a48
    have t48 : Γ b48 = 85 := t48
    obtain ⟨lW, B48, -⟩ := h_ints (Or.inr (Or.inr rfl)) hT (by rw [t48]; decide) ((congrArg TS0.1 t48).trans rfl)
    have tg : [Γ m0, Γ (B 6), Γ (B 7), Γ (B 12), Γ (B 13), Γ (B 17), Γ b46, Γ b47, Γ b48] = [60, 62, 63, 66, 122, 69, 83, 84, 85] := by rw [tm, t6, t7, t12, t13, t17, t46, t47, t48]
    refine ⟨17, _, _, by decide, K_X12_gossip l g m0 ws nv (B 6) (F 6) (B 7) (F 7) (B 12) (F 12) (B 13) (F 13) (B 17) (F 17) b46 tH b47 gR b48 lW p0 p1 hlen F18 G6 G7 G12 G13 G17 G46 G47 G48 hnv hV.lc (pe_of hV) (en_of hV).1 (en_of hV).2 (fun q => kp_of hV how q) (fun q => fn_of hV how q) (fun q => by rw [(fo_of hV how q).1]; exact (fw_rng (lc := (V (tN p0)).lc) (hV _ q).1.1 (hV _ q).1.2.2.1).2.1), vaP_cons A0 (vaP_cons (hB 6 (by decide)).2 (vaP_cons (hB 7 (by decide)).2 (vaP_cons (hB 12 (by decide)).2 (vaP_cons (hB 13 (by decide)).2 (vaP_cons (hB 17 (by decide)).2 (vaP_cons B46 (vaP_cons B47 (vaP_cons B48 vaP_nil)))))))), D_tags (tl := [60, 62, 63, 66, 122, 69, 83, 84, 85]) tg (by decide) (by decide), fun x u H1 hp hP hz hk hT1 hun => ?_⟩
    rw [hp.1, go_refM hnv hV how]

/-! what stands on both sides of the law beside the tags: tape, its length, how many valleys and plans -/
def RFA (g : GG) (q k n : Nat) (f : Nat → Option Nat) (H : Heap) : Prop := va_at g.1 CLS (q, .inl (g.2.1 k, (n, .inr (.inr (.inr (.inr f)))))) H
def RC1 (g : GG) (x0 : Nat) (n : Nat) (fb : Nat → Int32) (nv np : Nat) (H : Heap) : Prop := ∃ (t0 tq va pa sp : Nat) (fA fB : Nat → Option Nat),
  FE g x0 11 0 H (.ref t0) ∧ FE g x0 11 1 H (.ref va) ∧ FE g x0 11 2 H (.ref pa) ∧ FE g x0 11 10 H (.ref sp) ∧ FE g x0 11 11 H (.int (nI nv)) ∧ FE g x0 11 12 H (.int (nI np)) ∧ FE g t0 8 0 H (.ref tq) ∧ FE g t0 8 1 H (.int (nI n)) ∧ AT g 1 400 tq (ub fb) H ∧
  RFA g va 4 10 fA H ∧ (∀ i : Nat, i < nv → ∃ a, fA i = some a) ∧ RFA g pa 5 12 fB H ∧ (∀ j : Nat, j < np → ∃ b, fB j = some b) ∧ ∀ j : Nat, j < 11 → FE g sp 10 (3 + j) H (.ref (sp + 1 + j))
def RR1 (g : GG) (m0 : Nat) (n : Nat) (fb : Nat → Int32) (nv np : Nat) (H : Heap) : Prop := ∃ tr : Nat, FE g m0 12 1 H (.ref tr) ∧ FE g m0 12 2 H (.int (nI n)) ∧ FE g m0 12 18 H (.int (nI nv)) ∧ FE g m0 12 27 H (.int (nI np)) ∧ AT g 0 400 tr fb H
def mdn (l mods : List (Nat × Nat)) : Bool := l.all fun q => !(md mods q.1 q.2)
theorem mdn_at {l mods : List (Nat × Nat)} (h : mdn l mods = true) {t k : Nat} (hq : (t, k) ∈ l) : md mods t k = false := by
  have := List.all_eq_true.mp h _ hq
  rwa [Bool.not_eq_true'] at this
def RC1L : List (Nat × Nat) := [(1, 0), (1, 1), (1, 2), (1, 10), (1, 11), (1, 12), (2, 0), (2, 1), (22, 0), (20, 0), (21, 0), (13, 3), (13, 4), (13, 5), (13, 6), (13, 7), (13, 8), (13, 9), (13, 10), (13, 11), (13, 12), (13, 13)]
def RR1L : List (Nat × Nat) := [(60, 1), (60, 2), (60, 18), (60, 27), (61, 0)]
theorem ref_tag {g : GG} {Γ : Nat → Nat} {H : Heap} {x t ci k u y : Nat} {fs : List AV} (hT : HT g TS0 Γ H) (hx : Γ x = t) (h0 : t ≠ 0) (ht : TS0.1 t = .inl (ci, fs)) (hk : fs[k]? = some (vr u)) (hF : FE g x ci k H (.ref y)) : Γ y = u ∧ Γ y ≠ 0 := by
  obtain ⟨vs, hat, hvs⟩ := h_obj hT (by rw [hx]; exact h0) ((congrArg TS0.1 hx).trans ht)
  obtain ⟨w, e, a⟩ := hvs.get hk
  obtain ⟨us, r2, h1, h2, h3, h4⟩ := hF
  have e9 := FE_fun (FE_at hat h2 h3 e) ⟨us, r2, h1, h2, h3, h4⟩
  subst e9
  obtain ⟨q, eq, e1, e2⟩ := avi_ref (a := vr u) rfl a
  cases eq
  exact ⟨e1, e2⟩
set_option maxHeartbeats 4000000 in
theorem DV1 {g : GG} {Γ : Nat → Nat} {H : Heap} {x0 t0 va pa sp : Nat} {a b : Int32} (hT : HT g TS0 Γ H) (hx : Γ x0 = 1) (h0 : FE g x0 11 0 H (.ref t0)) (h1 : FE g x0 11 1 H (.ref va)) (h2 : FE g x0 11 2 H (.ref pa)) (h10 : FE g x0 11 10 H (.ref sp)) (h11 : FE g x0 11 11 H (.int a)) (h12 : FE g x0 11 12 H (.int b)) : ∃ (c3 c4 c5 c6 c7 c8 c9 : Nat) (cc : Int32), va_at g.1 CLS (x0, .inr (11, [.ref t0, .ref va, .ref pa, .ref c3, .ref c4, .ref c5, .ref c6, .ref c7, .ref c8, .ref c9, .ref sp, .int a, .int b, .int cc])) H := by
  obtain ⟨vs, A, hv⟩ := h_obj hT (by rw [hx]; decide) ((congrArg TS0.1 hx).trans rfl)
  have hv : VR g Γ [vr 2, vr 20, vr 21, vr 5, vr 6, vr 8, vr 9, vr 10, vr 11, vr 12, vr 13, vi 0 10, vi 0 12, itop] vs := hv
  obtain ⟨w0, s0, rfl, a0, hv⟩ := vr_cons hv
  obtain ⟨w1, s1, rfl, a1, hv⟩ := vr_cons hv
  obtain ⟨w2, s2, rfl, a2, hv⟩ := vr_cons hv
  obtain ⟨w3, s3, rfl, a3, hv⟩ := vr_cons hv
  obtain ⟨w4, s4, rfl, a4, hv⟩ := vr_cons hv
  obtain ⟨w5, s5, rfl, a5, hv⟩ := vr_cons hv
  obtain ⟨w6, s6, rfl, a6, hv⟩ := vr_cons hv
  obtain ⟨w7, s7, rfl, a7, hv⟩ := vr_cons hv
  obtain ⟨w8, s8, rfl, a8, hv⟩ := vr_cons hv
  obtain ⟨w9, s9, rfl, a9, hv⟩ := vr_cons hv
  obtain ⟨w10, s10, rfl, a10, hv⟩ := vr_cons hv
  obtain ⟨w11, s11, rfl, a11, hv⟩ := vr_cons hv
  obtain ⟨w12, s12, rfl, a12, hv⟩ := vr_cons hv
  obtain ⟨w13, s13, rfl, a13, hv⟩ := vr_cons hv
  obtain rfl := vr_nil hv
  obtain ⟨c3, rfl, -⟩ := avi_ref rfl a3
  obtain ⟨c4, rfl, -⟩ := avi_ref rfl a4
  obtain ⟨c5, rfl, -⟩ := avi_ref rfl a5
  obtain ⟨c6, rfl, -⟩ := avi_ref rfl a6
  obtain ⟨c7, rfl, -⟩ := avi_ref rfl a7
  obtain ⟨c8, rfl, -⟩ := avi_ref rfl a8
  obtain ⟨c9, rfl, -⟩ := avi_ref rfl a9
  obtain ⟨cc, rfl, -⟩ := avi_int rfl a13
  obtain rfl := FE_fun (FE_at (k := 0) A rfl (by decide) rfl) h0
  obtain rfl := FE_fun (FE_at (k := 1) A rfl (by decide) rfl) h1
  obtain rfl := FE_fun (FE_at (k := 2) A rfl (by decide) rfl) h2
  obtain rfl := FE_fun (FE_at (k := 10) A rfl (by decide) rfl) h10
  obtain rfl := FE_fun (FE_at (k := 11) A rfl (by decide) rfl) h11
  obtain rfl := FE_fun (FE_at (k := 12) A rfl (by decide) rfl) h12
  exact ⟨c3, c4, c5, c6, c7, c8, c9, cc, A⟩
theorem DVt {g : GG} {Γ : Nat → Nat} {H : Heap} {t0 tq n : Nat} (hT : HT g TS0 Γ H) (ht : Γ t0 = 2) (h0 : FE g t0 8 0 H (.ref tq)) (h1 : FE g t0 8 1 H (.int (nI n))) : ∃ pl : Int32, va_at g.1 CLS (t0, .inr (8, [.ref tq, .int (nI n), .int pl])) H := by
  obtain ⟨q, i1, i2, A, -, -⟩ := DV2 hT ht
  cases FE_fun (FE_at (k := 0) A rfl (by decide) rfl) h0
  cases FE_fun (FE_at (k := 1) A rfl (by decide) rfl) h1
  exact ⟨i2, A⟩
section
variable {g : GG} {Γ : Nat → Nat} {H H1 : Heap} {x0 m0 n nv np n' nv' np' : Nat} {fb fb' : Nat → Int32} {mods : List (Nat × Nat)}
theorem RC1.tags (h : RC1 g x0 n fb nv np H) (hT : HT g TS0 Γ H) (tx : Γ x0 = 1) : ∃ (t0 tq va pa sp : Nat) (fA fB : Nat → Option Nat), (Γ t0 = 2 ∧ Γ tq = 22 ∧ Γ va = 20 ∧ Γ pa = 21 ∧ Γ sp = 13) ∧
  FE g x0 11 0 H (.ref t0) ∧ FE g x0 11 1 H (.ref va) ∧ FE g x0 11 2 H (.ref pa) ∧ FE g x0 11 10 H (.ref sp) ∧ FE g x0 11 11 H (.int (nI nv)) ∧ FE g x0 11 12 H (.int (nI np)) ∧ FE g t0 8 0 H (.ref tq) ∧ FE g t0 8 1 H (.int (nI n)) ∧ AT g 1 400 tq (ub fb) H ∧
  RFA g va 4 10 fA H ∧ (∀ i : Nat, i < nv → ∃ a, fA i = some a) ∧ RFA g pa 5 12 fB H ∧ (∀ j : Nat, j < np → ∃ b, fB j = some b) ∧ ∀ j : Nat, j < 11 → FE g sp 10 (3 + j) H (.ref (sp + 1 + j)) := by
  obtain ⟨t0, tq, va, pa, sp, fA, fB, h0, h1, h2, h3, h4, h5, h6, h⟩ := h
  have e0 := (ref_tag (k := 0) (u := 2) hT tx (by decide) rfl rfl h0).1
  exact ⟨t0, tq, va, pa, sp, fA, fB, ⟨e0, (ref_tag (k := 0) (u := 22) hT e0 (by decide) rfl rfl h6).1, (ref_tag (k := 1) (u := 20) hT tx (by decide) rfl rfl h1).1, (ref_tag (k := 2) (u := 21) hT tx (by decide) rfl rfl h2).1, (ref_tag (k := 10) (u := 13) hT tx (by decide) rfl rfl h3).1⟩, h0, h1, h2, h3, h4, h5, h6, h⟩
theorem RR1.tags (h : RR1 g m0 n fb nv np H) (hT : HT g TS0 Γ H) (tm : Γ m0 = 60) : ∃ tr : Nat, Γ tr = 61 ∧ FE g m0 12 1 H (.ref tr) ∧ FE g m0 12 2 H (.int (nI n)) ∧ FE g m0 12 18 H (.int (nI nv)) ∧ FE g m0 12 27 H (.int (nI np)) ∧ AT g 0 400 tr fb H := by
  obtain ⟨tr, h1, h⟩ := h
  exact ⟨tr, (ref_tag (k := 1) (u := 61) hT tm (by decide) rfl rfl h1).1, h1, h⟩
theorem RFA.kept {q k n : Nat} {f : Nat → Option Nat} (h : RFA g q k n f H) (e : H1[q]? = H[q]?) : RFA g q k n f H1 := va_at.kept h e
/-- behind a call that may change tape and numbers alone -/
theorem RC1.upd (h : RC1 g x0 n fb nv np H) (hT : HT g TS0 Γ H) (tx : Γ x0 = 1) (hu : Un g TS0 Γ mods H H1) (hm : mdn [(1, 0), (1, 1), (1, 2), (1, 10), (1, 11), (1, 12), (2, 0), (20, 0), (21, 0)] mods = true) (hm2 : mdn [(13, 3), (13, 4), (13, 5), (13, 6), (13, 7), (13, 8), (13, 9), (13, 10), (13, 11), (13, 12), (13, 13)] mods = true) (k : ∀ t0 tq : Nat, Γ t0 = 2 → Γ tq = 22 → FE g x0 11 0 H (.ref t0) → FE g t0 8 0 H (.ref tq) → FE g t0 8 1 H (.int (nI n)) → AT g 1 400 tq (ub fb) H → FE g t0 8 1 H1 (.int (nI n')) ∧ AT g 1 400 tq (ub fb') H1) : RC1 g x0 n' fb' nv np H1 := by
  obtain ⟨t0, tq, va, pa, sp, fA, fB, ⟨e0, eq, ea, ep, es⟩, h0, h1, h2, h3, h4, h5, h6, h7, h8, h9, h10, h11, h12, h13⟩ := h.tags hT tx
  obtain ⟨k1, k2⟩ := k t0 tq e0 eq h0 h6 h7 h8
  refine ⟨t0, tq, va, pa, sp, fA, fB, hu.fld tx (by decide) rfl (mdn_at hm (by decide)) h0, hu.fld tx (by decide) rfl (mdn_at hm (by decide)) h1, hu.fld tx (by decide) rfl (mdn_at hm (by decide)) h2, hu.fld tx (by decide) rfl (mdn_at hm (by decide)) h3, hu.fld tx (by decide) rfl (mdn_at hm (by decide)) h4, hu.fld tx (by decide) rfl (mdn_at hm (by decide)) h5, hu.fld e0 (by decide) rfl (mdn_at hm (by decide)) h6, k1, k2, h9.kept (hu.arr ea (by decide) rfl (mdn_at hm (by decide))), h10, h11.kept (hu.arr ep (by decide) rfl (mdn_at hm (by decide))), h12, fun j hj => hu.fld es (by decide) rfl (mdn_at hm2 ?_) (h13 j hj)⟩
  have q : ∀ j : Fin 11, (13, 3 + j.val) ∈ ([(13, 3), (13, 4), (13, 5), (13, 6), (13, 7), (13, 8), (13, 9), (13, 10), (13, 11), (13, 12), (13, 13)] : List (Nat × Nat)) := by decide
  exact q ⟨j, hj⟩
theorem RC1.keep (h : RC1 g x0 n fb nv np H) (hT : HT g TS0 Γ H) (tx : Γ x0 = 1) (hu : Un g TS0 Γ mods H H1) (hm : mdn RC1L mods = true) : RC1 g x0 n fb nv np H1 := by
  have sub : ∀ l : List (Nat × Nat), (l.all fun q => decide (q ∈ RC1L)) = true → mdn l mods = true := fun l hl => List.all_eq_true.mpr fun q hq => by
    have h1 := of_decide_eq_true (List.all_eq_true.mp hl q hq)
    rw [Bool.not_eq_true']; exact mdn_at hm h1
  exact h.upd hT tx hu (sub _ (by decide)) (sub _ (by decide)) fun t0 tq e0 eq _ _ h7 h8 => ⟨hu.fld e0 (by decide) rfl (mdn_at hm (by decide)) h7, h8.kept (hu.arr eq (by decide) rfl (mdn_at hm (by decide)))⟩
theorem RR1.keep (h : RR1 g m0 n fb nv np H) (hT : HT g TS0 Γ H) (tm : Γ m0 = 60) (hu : Un g TS0 Γ mods H H1) (hm : mdn RR1L mods = true) : RR1 g m0 n fb nv np H1 := by
  obtain ⟨tr, eq, h1, h2, h3, h4, h5⟩ := h.tags hT tm
  exact ⟨tr, hu.fld tm (by decide) rfl (mdn_at hm (by decide)) h1, hu.fld tm (by decide) rfl (mdn_at hm (by decide)) h2, hu.fld tm (by decide) rfl (mdn_at hm (by decide)) h3, hu.fld tm (by decide) rfl (mdn_at hm (by decide)) h4, h5.kept (hu.arr eq (by decide) rfl (mdn_at hm (by decide)))⟩
theorem RR1.same (h : RR1 g m0 n fb nv np H) (hT : HT g TS0 Γ H) (tm : Γ m0 = 60) (ho : ∀ q : Nat, Γ q = 60 ∨ Γ q = 61 → H1[q]? = H[q]?) : RR1 g m0 n fb nv np H1 := by
  obtain ⟨tr, eq, h1, h2, h3, h4, h5⟩ := h.tags hT tm
  have e := ho m0 (Or.inl tm)
  exact ⟨tr, FE_kept h1 e, FE_kept h2 e, FE_kept h3 e, FE_kept h4 e, h5.kept (ho tr (Or.inr eq))⟩
end
section
variable {l : Launch} {g : GG} {Γ : Nat → Nat} {x0 m0 n nv np : Nat} {fb : Nat → Int32}
set_option maxHeartbeats 4000000 in
theorem E11_feed (hn : n ≤ 400) (hU : UQ TS0 Γ) (tx : Γ x0 = 1) (p0 p1 p2 p3 p4 : Int32) : EX l g yX11_feed cX11_feed 6 (some .int) pX11_feed_0 Γ [.ref x0, .int p0, .int p1, .int p2, .int p3, .int p4] (RC1 g x0 n fb nv np) (fun _ v H1 => v = .int (fdr n (s5 p0 p1 p2 p3 p4)) ∧ RC1 g x0 (fdn n (s5 p0 p1 p2 p3 p4)) (pb5 fb n p0 p1 p2 p3 p4) nv np H1) :=
  EX_of (SX11_feed_0 l g) hU ⟨av_ref tx (by decide), avi_top _, avi_top _, avi_top _, avi_top _, avi_top _, trivial⟩ rfl fun H hT hR => by
    obtain ⟨t0, tq, va, pa, sp, fA, fB, ⟨e0, eq, ea, ep, es⟩, h0, h1, h2, h3, h4, h5, h6, h7, h8, -⟩ := hR.tags hT tx
    obtain ⟨c3, c4, c5, c6, c7, c8, c9, cc, A0⟩ := DV1 hT tx h0 h1 h2 h3 h4 h5
    obtain ⟨pl, A1⟩ := DVt hT e0 h6 h7
    refine ⟨2, _, _, Nat.le_refl _, C_X11_feedP l g x0 t0 va pa c3 c4 c5 c6 c7 c8 c9 sp tq (nI nv) (nI np) cc (ub fb) n pl hn p0 p1 p2 p3 p4, vaP_cons A0 (vaP_cons A1 (vaP_cons h8 vaP_nil)), D_tags (tl := [1, 2, 22]) (by show [Γ x0, Γ t0, Γ tq] = _; rw [tx, e0, eq]) (by decide) (by decide), fun x u H1 hp hP hz hk hT1 hun => ?_⟩
    obtain ⟨rfl, rfl⟩ := hp
    refine ⟨rfl, hR.upd hT tx hun rfl rfl fun t0' tq' _ _ g0 g6 _ _ => ?_⟩
    cases FE_fun g0 h0
    cases FE_fun g6 h6
    refine ⟨FE_at (k := 1) (hP 1 _ rfl) rfl (by decide) rfl, ?_⟩
    rw [ub_pb5]
    exact hP 2 _ rfl
set_option maxHeartbeats 4000000 in
theorem E11_end (hn : n ≤ 400) (hU : UQ TS0 Γ) (tx : Γ x0 = 1) (p0 : Int32) : EX l g yX11_end cX11_end 2 (some .boolean) pX11_end_0 Γ [.ref x0, .int p0] (RC1 g x0 n fb nv np) (fun _ v H1 => v = .int (ctr n p0) ∧ RC1 g x0 (ctn n p0) fb nv np H1) :=
  EX_of (SX11_end_0 l g) hU ⟨av_ref tx (by decide), avi_top _, trivial⟩ rfl fun H hT hR => by
    obtain ⟨t0, tq, va, pa, sp, fA, fB, ⟨e0, eq, ea, ep, es⟩, h0, h1, h2, h3, h4, h5, h6, h7, h8, -⟩ := hR.tags hT tx
    obtain ⟨c3, c4, c5, c6, c7, c8, c9, cc, A0⟩ := DV1 hT tx h0 h1 h2 h3 h4 h5
    obtain ⟨pl, A1⟩ := DVt hT e0 h6 h7
    refine ⟨1, _, _, Nat.le_refl _, C_X11_endG l g x0 t0 va pa c3 c4 c5 c6 c7 c8 c9 sp tq (nI nv) (nI np) cc (ub fb) n pl p0 hn, vaP_cons A0 (vaP_cons A1 (vaP_cons h8 vaP_nil)), D_tags (tl := [1, 2, 22]) (by show [Γ x0, Γ t0, Γ tq] = _; rw [tx, e0, eq]) (by decide) (by decide), fun x u H1 hp hP hz hk hT1 hun => ?_⟩
    obtain ⟨rfl, rfl⟩ := hp
    refine ⟨rfl, hR.upd hT tx hun rfl rfl fun t0' tq' _ _ g0 g6 _ _ => ?_⟩
    cases FE_fun g0 h0
    cases FE_fun g6 h6
    exact ⟨FE_at (k := 1) (hP 1 _ rfl) rfl (by decide) rfl, hP 2 _ rfl⟩
set_option maxHeartbeats 8000000 in
theorem E12_feed (hn : n ≤ 400) (hU : UQ TS0 Γ) (tm : Γ m0 = 60) (p0 p1 p2 p3 p4 : Int32) : EX l g yX12_feed cX12_feed 6 (some .int) pX12_feed_h0 Γ [.ref m0, .int p0, .int p1, .int p2, .int p3, .int p4] (RR1 g m0 n fb nv np) (fun _ v H1 => v = .int (fdr n (s5 p0 p1 p2 p3 p4)) ∧ RR1 g m0 (fdn n (s5 p0 p1 p2 p3 p4)) (pb5 fb n p0 p1 p2 p3 p4) nv np H1) :=
  EX_of (SX12_feed_h0 l g) hU ⟨av_ref tm (by decide), avi_top _, avi_top _, avi_top _, avi_top _, avi_top _, trivial⟩ rfl fun H hT hR => by
    obtain ⟨tr, er, h1, h2, h3, h4, h5⟩ := hR.tags hT tm
    obtain ⟨ws, A0, hv⟩ := h_obj hT (by rw [tm]; decide) ((congrArg TS0.1 tm).trans rfl)
    refine KV_elim2 (KV_of hv) ?_
    intro i0_ b1_ i2_ i3_ i4_ i5_ b6_ b7_ b8_ b9_ b10_ b11_ b12_ b13_ b14_ b15_ b16_ b17_ i18_ i19_ i20_ b21_ b22_ b23_ b24_ b25_ b26_ i27_ b28_ b29_ b30_ b31_ b32_ b33_ b34_ b35_ b36_ i37_ i38_ i39_ i40_ i41_ i42_ i43_ i44_ i45_ b46_ b47_ b48_ b49_ b50_ b51_ b52_ b53_ b54_ b55_ b56_ b57_ b58_ b59_ b60_ b61_ b62_ b63_ e64
    subst e64
    cases FE_fun (FE_at (k := 1) A0 rfl (by decide) rfl) h1
    cases FE_fun (FE_at (k := 2) A0 rfl (by decide) rfl) h2
    cases FE_fun (FE_at (k := 18) A0 rfl (by decide) rfl) h3
    cases FE_fun (FE_at (k := 27) A0 rfl (by decide) rfl) h4
    refine ⟨1, _, _, Nat.le_refl _, C_X12_feedP l g m0 tr b6_ b7_ b8_ b9_ b10_ b11_ b12_ b13_ b14_ b15_ b16_ b17_ b21_ b22_ b23_ b24_ b25_ b26_ b28_ b29_ b30_ b31_ b32_ b33_ b34_ b35_ b36_ b46_ b47_ b48_ b49_ b50_ b51_ b52_ b53_ b54_ b55_ b56_ b57_ b58_ b59_ b60_ b61_ b62_ b63_ i0_ i3_ i4_ i5_ (nI nv) i19_ i20_ (nI np) i37_ i38_ i39_ i40_ i41_ i42_ i43_ i44_ i45_ fb n hn p0 p1 p2 p3 p4, vaP_cons A0 (vaP_cons h5 vaP_nil), D_tags (tl := [60, 61]) (by show [Γ m0, Γ _] = _; rw [tm, er]) (by decide) (by decide), fun x u H1 hp hP hz hk hT1 hun => ?_⟩
    obtain ⟨rfl, rfl⟩ := hp
    have B0 := hP 0 _ rfl
    exact ⟨rfl, _, FE_at (k := 1) B0 rfl (by decide) rfl, FE_at (k := 2) B0 rfl (by decide) rfl, FE_at (k := 18) B0 rfl (by decide) rfl, FE_at (k := 27) B0 rfl (by decide) rfl, hP 1 _ rfl⟩
set_option maxHeartbeats 8000000 in
theorem E12_end (hn : n ≤ 400) (hU : UQ TS0 Γ) (tm : Γ m0 = 60) (p0 : Int32) : EX l g yX12_end cX12_end 2 (some .boolean) pX12_end_0 Γ [.ref m0, .int p0] (RR1 g m0 n fb nv np) (fun _ v H1 => v = .int (ctr n p0) ∧ RR1 g m0 (ctn n p0) fb nv np H1) :=
  EX_of (SX12_end_0 l g) hU ⟨av_ref tm (by decide), avi_top _, trivial⟩ rfl fun H hT hR => by
    obtain ⟨tr, er, h1, h2, h3, h4, h5⟩ := hR.tags hT tm
    obtain ⟨ws, A0, hv⟩ := h_obj hT (by rw [tm]; decide) ((congrArg TS0.1 tm).trans rfl)
    refine KV_elim2 (KV_of hv) ?_
    intro i0_ b1_ i2_ i3_ i4_ i5_ b6_ b7_ b8_ b9_ b10_ b11_ b12_ b13_ b14_ b15_ b16_ b17_ i18_ i19_ i20_ b21_ b22_ b23_ b24_ b25_ b26_ i27_ b28_ b29_ b30_ b31_ b32_ b33_ b34_ b35_ b36_ i37_ i38_ i39_ i40_ i41_ i42_ i43_ i44_ i45_ b46_ b47_ b48_ b49_ b50_ b51_ b52_ b53_ b54_ b55_ b56_ b57_ b58_ b59_ b60_ b61_ b62_ b63_ e64
    subst e64
    cases FE_fun (FE_at (k := 1) A0 rfl (by decide) rfl) h1
    cases FE_fun (FE_at (k := 2) A0 rfl (by decide) rfl) h2
    cases FE_fun (FE_at (k := 18) A0 rfl (by decide) rfl) h3
    cases FE_fun (FE_at (k := 27) A0 rfl (by decide) rfl) h4
    refine ⟨0, _, _, Nat.le_refl _, C_X12_endG l g m0 tr b6_ b7_ b8_ b9_ b10_ b11_ b12_ b13_ b14_ b15_ b16_ b17_ b21_ b22_ b23_ b24_ b25_ b26_ b28_ b29_ b30_ b31_ b32_ b33_ b34_ b35_ b36_ b46_ b47_ b48_ b49_ b50_ b51_ b52_ b53_ b54_ b55_ b56_ b57_ b58_ b59_ b60_ b61_ b62_ b63_ i0_ i3_ i4_ i5_ (nI nv) i19_ i20_ (nI np) i37_ i38_ i39_ i40_ i41_ i42_ i43_ i44_ i45_ n p0 hn, vaP_cons A0 vaP_nil, D_tags (tl := [60]) (by show [Γ m0] = _; rw [tm]) (by decide) (by decide), fun x u H1 hp hP hz hk hT1 hun => ?_⟩
    obtain ⟨rfl, rfl⟩ := hp
    have B0 := hP 0 _ rfl
    exact ⟨rfl, _, FE_at (k := 1) B0 rfl (by decide) rfl, FE_at (k := 2) B0 rfl (by decide) rfl, FE_at (k := 18) B0 rfl (by decide) rfl, FE_at (k := 27) B0 rfl (by decide) rfl, h5.kept (hun.arr er (by decide) rfl rfl)⟩
end

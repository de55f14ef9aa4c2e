theorem dn_kx {lc : Nat} {L : Nat → Int32} {y z : Int32} : (F_X11_down1 lc L (F_X10_lookAtLines lc L) y z).2.2 = F_X10_lookAtLines lc (F_X11_down1 lc L (F_X10_lookAtLines lc L) y z).2.1 := by
  unfold F_X11_down1 F_X10_setDown
  split
  · rfl
  · split
    · rfl
    · split <;> rfl
theorem dn_ends {lc p : Nat} {L K : Nat → Int32} {y z : Int32} (h : endsIn L lc p) : endsIn (F_X11_down1 lc L K y z).2.1 lc p := by
  unfold F_X11_down1 F_X10_setDown
  split
  · exact h
  · split
    · exact ends_dn h
    · split
      · exact h
      · exact ends_dn h
theorem cd_cl {pe : Nat} {cd cl : Nat → Int32} {y z : Int32} (hpe : pe ≤ 7) (h : ∀ j : Nat, j < 7 → cl j = nI (tN (cl j)) ∧ tN (cl j) ≤ 6) : ∀ j : Nat, j < 7 → (F_X11_card1 pe cd cl y z).2.2 j = nI (tN ((F_X11_card1 pe cd cl y z).2.2 j)) ∧ tN ((F_X11_card1 pe cd cl y z).2.2 j) ≤ 6 := by
  unfold F_X11_card1 F_X10_appendToCard
  split
  · exact h
  · rename_i hc
    have hy := (hc_at (n := pe) (by omega) hc).1
    split
    · rename_i h6
      have h5 := (nI_ltI (a := tN (cl (tN y))) (b := 6) (by have := (h (tN y) (by omega)).2; omega) (by omega)).mp h6
      intro j hj
      show upd cl (tN y) (nI (tN (cl (tN y)) + 1)) j = nI (tN (upd cl (tN y) (nI (tN (cl (tN y)) + 1)) j)) ∧ tN (upd cl (tN y) (nI (tN (cl (tN y)) + 1)) j) ≤ 6
      by_cases e : j = tN y
      · subst e
        rw [upd_eq, tN_nI (by omega)]
        exact ⟨rfl, by omega⟩
      · rw [upd_ne e]
        exact h j hj
    · exact h
set_option maxHeartbeats 4000000 in
theorem E11_downV {l : Launch} {g : GG} {Γ : Nat → Nat} {x0 n nv np : Nat} {fb : Nat → Int32} {V : Nat → VV} (hU : UQ TS0 Γ) (hnv : nv ≤ 10) (tx : Γ x0 = 1) (p0 : Int32) (p1 : Int32) (p2 : Int32) : EX l g yX11_down cX11_down 5 (some .boolean) pX11_down_0 Γ [.ref x0, .int p0, .int p1, .int p2] (fun H => RC1 g x0 n fb nv np H ∧ RCV g x0 nv V H) (fun _ v H1 => v = .int (vAns nv V p0 0 (fun w => (F_X11_down1 w.lc w.L (kx w) p1 p2).1)) ∧ RCV g x0 nv (vNew nv V p0 (fun w : VV => (w.sL ((F_X11_down1 w.lc w.L (kx w) p1 p2).2.1)))) H1) :=
  EX_of (SX11_down_0 l g) hU ⟨av_ref tx (by decide), avi_top _, avi_top _, avi_top _, trivial⟩ rfl fun H hT hR => by
    obtain ⟨hR, va, fA, sp, g1, g9, g10, g14, g15, g16, g17⟩ := hR
    obtain ⟨t0, tq, va', pa, sp', fA', fB, ⟨e0, eq, ea, ep, es⟩, h0, h1, h2, h3, h4, h5, h6, h7, h8, -, -, -, -, h13⟩ := hR.tags hT tx
    cases FE_fun g1 h1
    cases FE_fun g15 h3
    have hspb := spb_of hT es h13
    obtain ⟨c3, c4, c5, c6, c7, c8, c9, cc, A0⟩ := DV1 hT tx h0 h1 h2 h3 h4 h5
    rcases vin_cases (n := nv) (by omega) p0 with hb | ⟨i, hi, rfl⟩
    · refine ⟨1, _, _, by decide, K_X11_down0 l g x0 t0 va pa c3 c4 c5 c6 c7 c8 c9 sp nv np cc fA p0 p1 p2 hb, vaP_cons A0 (vaP_cons g9 vaP_nil), D_tags (tl := [1, 20]) (by show [Γ x0, Γ va] = _; rw [tx, ea]) (by decide) (by decide), fun x u H1 hp hP hz hk hT1 hun => ?_⟩
      obtain ⟨rfl, rfl⟩ := hp
      refine ⟨congrArg Value.int (by rw [vAns_no hb]; rfl), ?_⟩
      rw [vNew_no hb]
      exact RCV.same hnv hT tx g1 g9 g10 g14 (fun a => win_cons (win_t tx (by decide)) (win_cons (win_t ea (by decide)) win_nil)) hk (FE_at (k := 1) (hP 0 _ rfl) rfl (by decide) rfl) (hP 1 _ rfl) ⟨FE_at (k := 10) (hP 0 _ rfl) rfl (by decide) rfl, hun.fld es (by decide) rfl rfl g16, g17.kept (hk _ (hT.lt (by rw [hspb.2.1]; decide)) (nin_tag (tl := [1, 20]) (by show [Γ x0, Γ va] = _; rw [tx, ea]) hspb.2.1 rfl (hT.lt (by rw [hspb.2.1]; decide))))⟩
    · obtain ⟨ok, v, hv, hV⟩ := g10 i hi
      have tv := RCV.tag hT tx g1 g9 (by omega) hv
      have hblk := hV.blk hT tv
      obtain ⟨s1, s2, s3, s4, s5, s6, s7, s8, s9, s10, s11⟩ := hV.tags hT tv
      obtain ⟨gl, v15, hP0⟩ := hV
      have ok0 := ok
      obtain ⟨ok1, ok2, ok3, ok4⟩ := ok
      refine ⟨5, _, _, by decide, K_X11_down1 l g x0 t0 va pa c3 c4 c5 c6 c7 c8 c9 sp nv np cc fA i v (v + 1) (v + 2) (v + 3) (v + 4) (v + 5) (v + 6) (v + 7) (v + 8) (v + 9) (v + 10) (v + 11) v15 (nI (V i).p) (V i).lc (V i).de gl (V i).L (kx (V i)) (V i).p p1 p2 hi hnv hv ok2 ok1 ok3, vaP_cons A0 (vaP_cons g9 (vaP_cons (hP0 0 _ rfl) (vaP_cons (hP0 7 _ rfl) (vaP_cons (hP0 8 _ rfl) vaP_nil)))), D_tags (tl := [1, 20, 3, 25, 26]) (by show [Γ x0, Γ va, Γ v, Γ (v + 7), Γ (v + 8)] = _; rw [tx, ea, tv, s7, s8]) (by decide) (by decide), fun x u H1 hp hP hz hk hT1 hun => ?_⟩
      obtain ⟨rfl, rfl⟩ := hp
      refine ⟨congrArg Value.int (by rw [vAns_ok hnv hi]; try rfl), ?_⟩
      rw [vNew_ok hnv hi]
      have hin : ∀ m ∈ ([0, 7, 8] : List Nat), m ≤ 11 := by decide
      have hK : ∀ m : Nat, m ≤ 11 → m ∉ ([0, 7, 8] : List Nat) → H1[v + m]? = H[v + m]? := fun m h1 h2 => win_same hblk (win_cons (win_t tx (by decide)) (win_cons (win_t ea (by decide)) (win_cons (Or.inr ⟨0, by decide, rfl⟩) (win_cons (Or.inr ⟨7, by decide, rfl⟩) (win_cons (Or.inr ⟨8, by decide, rfl⟩) (win_nil)))))) hin h1 h2 hT hk
      exact RCV.upd hnv hT tx g1 g9 g10 g14 hi hv (win_cons (win_t tx (by decide)) (win_cons (win_t ea (by decide)) (win_cons (Or.inr ⟨0, by decide, rfl⟩) (win_cons (Or.inr ⟨7, by decide, rfl⟩) (win_cons (Or.inr ⟨8, by decide, rfl⟩) (win_nil)))))) hin hk (FE_at (k := 1) (hP 0 _ rfl) rfl (by decide) rfl) (hP 1 _ rfl) ⟨FE_at (k := 10) (hP 0 _ rfl) rfl (by decide) rfl, hun.fld es (by decide) rfl rfl g16, g17.kept (win_sp hspb hblk (win_cons (win_t tx (by decide)) (win_cons (win_t ea (by decide)) (win_cons (Or.inr ⟨0, by decide, rfl⟩) (win_cons (Or.inr ⟨7, by decide, rfl⟩) (win_cons (Or.inr ⟨8, by decide, rfl⟩) (win_nil)))))) hin hT hk)⟩ (w := (fun w : VV => (w.sL ((F_X11_down1 w.lc w.L (kx w) p1 p2).2.1))) (V i)) ⟨ok1, ok2, dn_ends ok3, ok4⟩ ⟨gl, v15, vaP_cons (hP 2 _ rfl) (vaP_cons (va_at.kept (hP0 1 _ rfl) (hK 1 (by omega) (by decide))) (vaP_cons (va_at.kept (hP0 2 _ rfl) (hK 2 (by omega) (by decide))) (vaP_cons (va_at.kept (hP0 3 _ rfl) (hK 3 (by omega) (by decide))) (vaP_cons (va_at.kept (hP0 4 _ rfl) (hK 4 (by omega) (by decide))) (vaP_cons (va_at.kept (hP0 5 _ rfl) (hK 5 (by omega) (by decide))) (vaP_cons (va_at.kept (hP0 6 _ rfl) (hK 6 (by omega) (by decide))) (vaP_cons (hP 3 _ rfl) (vaP_cons (by have q8 := hP 4 _ rfl; rw [show (F_X11_down1 (V i).lc (V i).L (kx (V i)) p1 p2).2.2 = _ from dn_kx] at q8; exact q8) (vaP_cons (va_at.kept (hP0 9 _ rfl) (hK 9 (by omega) (by decide))) (vaP_cons (va_at.kept (hP0 10 _ rfl) (hK 10 (by omega) (by decide))) (vaP_cons (va_at.kept (hP0 11 _ rfl) (hK 11 (by omega) (by decide))) (vaP_nil))))))))))))⟩
set_option maxHeartbeats 4000000 in
theorem E11_cardV {l : Launch} {g : GG} {Γ : Nat → Nat} {x0 n nv np : Nat} {fb : Nat → Int32} {V : Nat → VV} (hU : UQ TS0 Γ) (hnv : nv ≤ 10) (tx : Γ x0 = 1) (p0 : Int32) (p1 : Int32) (p2 : Int32) : EX l g yX11_card cX11_card 5 (some .int) pX11_card_0 Γ [.ref x0, .int p0, .int p1, .int p2] (fun H => RC1 g x0 n fb nv np H ∧ RCV g x0 nv V H) (fun _ v H1 => v = .int (vAns nv V p0 (-1) (fun w => (F_X11_card1 w.p w.cd w.cl p1 p2).1)) ∧ RCV g x0 nv (vNew nv V p0 (fun w : VV => (w.scc ((F_X11_card1 w.p w.cd w.cl p1 p2).2.1) ((F_X11_card1 w.p w.cd w.cl p1 p2).2.2)))) H1) :=
  EX_of (SX11_card_0 l g) hU ⟨av_ref tx (by decide), avi_top _, avi_top _, avi_top _, trivial⟩ rfl fun H hT hR => by
    obtain ⟨hR, va, fA, sp, g1, g9, g10, g14, g15, g16, g17⟩ := hR
    obtain ⟨t0, tq, va', pa, sp', fA', fB, ⟨e0, eq, ea, ep, es⟩, h0, h1, h2, h3, h4, h5, h6, h7, h8, -, -, -, -, h13⟩ := hR.tags hT tx
    cases FE_fun g1 h1
    cases FE_fun g15 h3
    have hspb := spb_of hT es h13
    obtain ⟨c3, c4, c5, c6, c7, c8, c9, cc, A0⟩ := DV1 hT tx h0 h1 h2 h3 h4 h5
    rcases vin_cases (n := nv) (by omega) p0 with hb | ⟨i, hi, rfl⟩
    · refine ⟨1, _, _, by decide, K_X11_card0 l g x0 t0 va pa c3 c4 c5 c6 c7 c8 c9 sp nv np cc fA p0 p1 p2 hb, vaP_cons A0 (vaP_cons g9 vaP_nil), D_tags (tl := [1, 20]) (by show [Γ x0, Γ va] = _; rw [tx, ea]) (by decide) (by decide), fun x u H1 hp hP hz hk hT1 hun => ?_⟩
      obtain ⟨rfl, rfl⟩ := hp
      refine ⟨congrArg Value.int (by rw [vAns_no hb]; rfl), ?_⟩
      rw [vNew_no hb]
      exact RCV.same hnv hT tx g1 g9 g10 g14 (fun a => win_cons (win_t tx (by decide)) (win_cons (win_t ea (by decide)) win_nil)) hk (FE_at (k := 1) (hP 0 _ rfl) rfl (by decide) rfl) (hP 1 _ rfl) ⟨FE_at (k := 10) (hP 0 _ rfl) rfl (by decide) rfl, hun.fld es (by decide) rfl rfl g16, g17.kept (hk _ (hT.lt (by rw [hspb.2.1]; decide)) (nin_tag (tl := [1, 20]) (by show [Γ x0, Γ va] = _; rw [tx, ea]) hspb.2.1 rfl (hT.lt (by rw [hspb.2.1]; decide))))⟩
    · obtain ⟨ok, v, hv, hV⟩ := g10 i hi
      have tv := RCV.tag hT tx g1 g9 (by omega) hv
      have hblk := hV.blk hT tv
      obtain ⟨s1, s2, s3, s4, s5, s6, s7, s8, s9, s10, s11⟩ := hV.tags hT tv
      obtain ⟨gl, v15, hP0⟩ := hV
      have ok0 := ok
      obtain ⟨ok1, ok2, ok3, ok4⟩ := ok
      refine ⟨2, _, _, by decide, K_X11_card1 l g x0 t0 va pa c3 c4 c5 c6 c7 c8 c9 sp nv np cc fA i v (v + 1) (v + 2) (v + 3) (v + 4) (v + 5) (v + 6) (v + 7) (v + 8) (v + 9) (v + 10) (v + 11) v15 (V i).p (nI (V i).lc) (V i).de gl (V i).cd (V i).cl p1 p2 hi hnv hv ok1 ok4, vaP_cons A0 (vaP_cons g9 (vaP_cons (hP0 0 _ rfl) (vaP_cons (hP0 9 _ rfl) (vaP_cons (hP0 10 _ rfl) vaP_nil)))), D_tags (tl := [1, 20, 3, 27, 28]) (by show [Γ x0, Γ va, Γ v, Γ (v + 9), Γ (v + 10)] = _; rw [tx, ea, tv, s9, s10]) (by decide) (by decide), fun x u H1 hp hP hz hk hT1 hun => ?_⟩
      obtain ⟨rfl, rfl⟩ := hp
      refine ⟨congrArg Value.int (by rw [vAns_ok hnv hi]; try rfl), ?_⟩
      rw [vNew_ok hnv hi]
      have hin : ∀ m ∈ ([0, 9, 10] : List Nat), m ≤ 11 := by decide
      have hK : ∀ m : Nat, m ≤ 11 → m ∉ ([0, 9, 10] : List Nat) → H1[v + m]? = H[v + m]? := fun m h1 h2 => win_same hblk (win_cons (win_t tx (by decide)) (win_cons (win_t ea (by decide)) (win_cons (Or.inr ⟨0, by decide, rfl⟩) (win_cons (Or.inr ⟨9, by decide, rfl⟩) (win_cons (Or.inr ⟨10, by decide, rfl⟩) (win_nil)))))) hin h1 h2 hT hk
      have hcl := cd_cl (pe := (V i).p) (cd := (V i).cd) (cl := (V i).cl) (y := p1) (z := p2) ok1 ok4
      generalize F_X11_card1 (V i).p (V i).cd (V i).cl p1 p2 = U at hP hcl ⊢
      exact RCV.upd hnv hT tx g1 g9 g10 g14 hi hv (win_cons (win_t tx (by decide)) (win_cons (win_t ea (by decide)) (win_cons (Or.inr ⟨0, by decide, rfl⟩) (win_cons (Or.inr ⟨9, by decide, rfl⟩) (win_cons (Or.inr ⟨10, by decide, rfl⟩) (win_nil)))))) hin hk (FE_at (k := 1) (hP 0 _ rfl) rfl (by decide) rfl) (hP 1 _ rfl) ⟨FE_at (k := 10) (hP 0 _ rfl) rfl (by decide) rfl, hun.fld es (by decide) rfl rfl g16, g17.kept (win_sp hspb hblk (win_cons (win_t tx (by decide)) (win_cons (win_t ea (by decide)) (win_cons (Or.inr ⟨0, by decide, rfl⟩) (win_cons (Or.inr ⟨9, by decide, rfl⟩) (win_cons (Or.inr ⟨10, by decide, rfl⟩) (win_nil)))))) hin hT hk)⟩ (w := (V i).scc U.2.1 U.2.2) ⟨ok1, ok2, ok3, hcl⟩ ⟨gl, v15, vaP_cons (hP 2 _ rfl) (vaP_cons (va_at.kept (hP0 1 _ rfl) (hK 1 (by omega) (by decide))) (vaP_cons (va_at.kept (hP0 2 _ rfl) (hK 2 (by omega) (by decide))) (vaP_cons (va_at.kept (hP0 3 _ rfl) (hK 3 (by omega) (by decide))) (vaP_cons (va_at.kept (hP0 4 _ rfl) (hK 4 (by omega) (by decide))) (vaP_cons (va_at.kept (hP0 5 _ rfl) (hK 5 (by omega) (by decide))) (vaP_cons (va_at.kept (hP0 6 _ rfl) (hK 6 (by omega) (by decide))) (vaP_cons (va_at.kept (hP0 7 _ rfl) (hK 7 (by omega) (by decide))) (vaP_cons (va_at.kept (hP0 8 _ rfl) (hK 8 (by omega) (by decide))) (vaP_cons (hP 3 _ rfl) (vaP_cons (hP 4 _ rfl) (vaP_cons (va_at.kept (hP0 11 _ rfl) (hK 11 (by omega) (by decide))) (vaP_nil))))))))))))⟩
set_option maxHeartbeats 4000000 in
theorem E11_blankV {l : Launch} {g : GG} {Γ : Nat → Nat} {x0 n nv np : Nat} {fb : Nat → Int32} {V : Nat → VV} (hU : UQ TS0 Γ) (hnv : nv ≤ 10) (tx : Γ x0 = 1) (p0 : Int32) : EX l g yX11_blank cX11_blank 3 (some .boolean) pX11_blank_0 Γ [.ref x0, .int p0] (fun H => RC1 g x0 n fb nv np H ∧ RCV g x0 nv V H) (fun _ v H1 => v = .int (vAns nv V p0 0 (fun w => 1)) ∧ RCV g x0 nv (vNew nv V p0 (fun w : VV => (w.scl (fun _ => 0)))) H1) :=
  EX_of (SX11_blank_0 l g) hU ⟨av_ref tx (by decide), avi_top _, trivial⟩ rfl fun H hT hR => by
    obtain ⟨hR, va, fA, sp, g1, g9, g10, g14, g15, g16, g17⟩ := hR
    obtain ⟨t0, tq, va', pa, sp', fA', fB, ⟨e0, eq, ea, ep, es⟩, h0, h1, h2, h3, h4, h5, h6, h7, h8, -, -, -, -, h13⟩ := hR.tags hT tx
    cases FE_fun g1 h1
    cases FE_fun g15 h3
    have hspb := spb_of hT es h13
    obtain ⟨c3, c4, c5, c6, c7, c8, c9, cc, A0⟩ := DV1 hT tx h0 h1 h2 h3 h4 h5
    rcases vin_cases (n := nv) (by omega) p0 with hb | ⟨i, hi, rfl⟩
    · refine ⟨1, _, _, by decide, K_X11_blank0 l g x0 t0 va pa c3 c4 c5 c6 c7 c8 c9 sp nv np cc fA p0 hb, vaP_cons A0 (vaP_cons g9 vaP_nil), D_tags (tl := [1, 20]) (by show [Γ x0, Γ va] = _; rw [tx, ea]) (by decide) (by decide), fun x u H1 hp hP hz hk hT1 hun => ?_⟩
      obtain ⟨rfl, rfl⟩ := hp
      refine ⟨congrArg Value.int (by rw [vAns_no hb]; rfl), ?_⟩
      rw [vNew_no hb]
      exact RCV.same hnv hT tx g1 g9 g10 g14 (fun a => win_cons (win_t tx (by decide)) (win_cons (win_t ea (by decide)) win_nil)) hk (FE_at (k := 1) (hP 0 _ rfl) rfl (by decide) rfl) (hP 1 _ rfl) ⟨FE_at (k := 10) (hP 0 _ rfl) rfl (by decide) rfl, hun.fld es (by decide) rfl rfl g16, g17.kept (hk _ (hT.lt (by rw [hspb.2.1]; decide)) (nin_tag (tl := [1, 20]) (by show [Γ x0, Γ va] = _; rw [tx, ea]) hspb.2.1 rfl (hT.lt (by rw [hspb.2.1]; decide))))⟩
    · obtain ⟨ok, v, hv, hV⟩ := g10 i hi
      have tv := RCV.tag hT tx g1 g9 (by omega) hv
      have hblk := hV.blk hT tv
      obtain ⟨s1, s2, s3, s4, s5, s6, s7, s8, s9, s10, s11⟩ := hV.tags hT tv
      obtain ⟨gl, v15, hP0⟩ := hV
      have ok0 := ok
      obtain ⟨ok1, ok2, ok3, ok4⟩ := ok
      refine ⟨2, _, _, by decide, K_X11_blank1 l g x0 t0 va pa c3 c4 c5 c6 c7 c8 c9 sp nv np cc fA i v (v + 1) (v + 2) (v + 3) (v + 4) (v + 5) (v + 6) (v + 7) (v + 8) (v + 9) (v + 10) (v + 11) v15 (nI (V i).p) (nI (V i).lc) (V i).de gl (V i).cl hi hnv hv, vaP_cons A0 (vaP_cons g9 (vaP_cons (hP0 0 _ rfl) (vaP_cons (hP0 10 _ rfl) vaP_nil))), D_tags (tl := [1, 20, 3, 28]) (by show [Γ x0, Γ va, Γ v, Γ (v + 10)] = _; rw [tx, ea, tv, s10]) (by decide) (by decide), fun x u H1 hp hP hz hk hT1 hun => ?_⟩
      obtain ⟨rfl, rfl⟩ := hp
      refine ⟨congrArg Value.int (by rw [vAns_ok hnv hi]; try rfl), ?_⟩
      rw [vNew_ok hnv hi]
      have hin : ∀ m ∈ ([0, 10] : List Nat), m ≤ 11 := by decide
      have hK : ∀ m : Nat, m ≤ 11 → m ∉ ([0, 10] : List Nat) → H1[v + m]? = H[v + m]? := fun m h1 h2 => win_same hblk (win_cons (win_t tx (by decide)) (win_cons (win_t ea (by decide)) (win_cons (Or.inr ⟨0, by decide, rfl⟩) (win_cons (Or.inr ⟨10, by decide, rfl⟩) (win_nil))))) hin h1 h2 hT hk
      exact RCV.upd hnv hT tx g1 g9 g10 g14 hi hv (win_cons (win_t tx (by decide)) (win_cons (win_t ea (by decide)) (win_cons (Or.inr ⟨0, by decide, rfl⟩) (win_cons (Or.inr ⟨10, by decide, rfl⟩) (win_nil))))) hin hk (FE_at (k := 1) (hP 0 _ rfl) rfl (by decide) rfl) (hP 1 _ rfl) ⟨FE_at (k := 10) (hP 0 _ rfl) rfl (by decide) rfl, hun.fld es (by decide) rfl rfl g16, g17.kept (win_sp hspb hblk (win_cons (win_t tx (by decide)) (win_cons (win_t ea (by decide)) (win_cons (Or.inr ⟨0, by decide, rfl⟩) (win_cons (Or.inr ⟨10, by decide, rfl⟩) (win_nil))))) hin hT hk)⟩ (w := (fun w : VV => (w.scl (fun _ => 0))) (V i)) ⟨ok1, ok2, ok3, fun _ _ => ⟨rfl, Nat.zero_le _⟩⟩ ⟨gl, v15, vaP_cons (hP 2 _ rfl) (vaP_cons (va_at.kept (hP0 1 _ rfl) (hK 1 (by omega) (by decide))) (vaP_cons (va_at.kept (hP0 2 _ rfl) (hK 2 (by omega) (by decide))) (vaP_cons (va_at.kept (hP0 3 _ rfl) (hK 3 (by omega) (by decide))) (vaP_cons (va_at.kept (hP0 4 _ rfl) (hK 4 (by omega) (by decide))) (vaP_cons (va_at.kept (hP0 5 _ rfl) (hK 5 (by omega) (by decide))) (vaP_cons (va_at.kept (hP0 6 _ rfl) (hK 6 (by omega) (by decide))) (vaP_cons (va_at.kept (hP0 7 _ rfl) (hK 7 (by omega) (by decide))) (vaP_cons (va_at.kept (hP0 8 _ rfl) (hK 8 (by omega) (by decide))) (vaP_cons (va_at.kept (hP0 9 _ rfl) (hK 9 (by omega) (by decide))) (vaP_cons (hP 3 _ rfl) (vaP_cons (va_at.kept (hP0 11 _ rfl) (hK 11 (by omega) (by decide))) (vaP_nil))))))))))))⟩
set_option maxHeartbeats 4000000 in
theorem E11_taleV {l : Launch} {g : GG} {Γ : Nat → Nat} {x0 n nv np : Nat} {fb : Nat → Int32} {V : Nat → VV} (hU : UQ TS0 Γ) (hnv : nv ≤ 10) (tx : Γ x0 = 1) (p0 : Int32) (p1 : Int32) (p2 : Int32) (p3 : Int32) : EX l g yX11_tale cX11_tale 6 (some .boolean) pX11_tale_0 Γ [.ref x0, .int p0, .int p1, .int p2, .int p3] (fun H => RC1 g x0 n fb nv np H ∧ RCV g x0 nv V H) (fun _ v H1 => v = .int (vAns nv V p0 0 (fun w => (F_X11_tale1 w.p w.ta p1 p2 p3).1)) ∧ RCV g x0 nv (vNew nv V p0 (fun w : VV => (w.sta ((F_X11_tale1 w.p w.ta p1 p2 p3).2)))) H1) :=
  EX_of (SX11_tale_0 l g) hU ⟨av_ref tx (by decide), avi_top _, avi_top _, avi_top _, avi_top _, trivial⟩ rfl fun H hT hR => by
    obtain ⟨hR, va, fA, sp, g1, g9, g10, g14, g15, g16, g17⟩ := hR
    obtain ⟨t0, tq, va', pa, sp', fA', fB, ⟨e0, eq, ea, ep, es⟩, h0, h1, h2, h3, h4, h5, h6, h7, h8, -, -, -, -, h13⟩ := hR.tags hT tx
    cases FE_fun g1 h1
    cases FE_fun g15 h3
    have hspb := spb_of hT es h13
    obtain ⟨c3, c4, c5, c6, c7, c8, c9, cc, A0⟩ := DV1 hT tx h0 h1 h2 h3 h4 h5
    rcases vin_cases (n := nv) (by omega) p0 with hb | ⟨i, hi, rfl⟩
    · refine ⟨1, _, _, by decide, K_X11_tale0 l g x0 t0 va pa c3 c4 c5 c6 c7 c8 c9 sp nv np cc fA p0 p1 p2 p3 hb, vaP_cons A0 (vaP_cons g9 vaP_nil), D_tags (tl := [1, 20]) (by show [Γ x0, Γ va] = _; rw [tx, ea]) (by decide) (by decide), fun x u H1 hp hP hz hk hT1 hun => ?_⟩
      obtain ⟨rfl, rfl⟩ := hp
      refine ⟨congrArg Value.int (by rw [vAns_no hb]; rfl), ?_⟩
      rw [vNew_no hb]
      exact RCV.same hnv hT tx g1 g9 g10 g14 (fun a => win_cons (win_t tx (by decide)) (win_cons (win_t ea (by decide)) win_nil)) hk (FE_at (k := 1) (hP 0 _ rfl) rfl (by decide) rfl) (hP 1 _ rfl) ⟨FE_at (k := 10) (hP 0 _ rfl) rfl (by decide) rfl, hun.fld es (by decide) rfl rfl g16, g17.kept (hk _ (hT.lt (by rw [hspb.2.1]; decide)) (nin_tag (tl := [1, 20]) (by show [Γ x0, Γ va] = _; rw [tx, ea]) hspb.2.1 rfl (hT.lt (by rw [hspb.2.1]; decide))))⟩
    · obtain ⟨ok, v, hv, hV⟩ := g10 i hi
      have tv := RCV.tag hT tx g1 g9 (by omega) hv
      have hblk := hV.blk hT tv
      obtain ⟨s1, s2, s3, s4, s5, s6, s7, s8, s9, s10, s11⟩ := hV.tags hT tv
      obtain ⟨gl, v15, hP0⟩ := hV
      have ok0 := ok
      obtain ⟨ok1, ok2, ok3, ok4⟩ := ok
      refine ⟨1, _, _, by decide, K_X11_tale1 l g x0 t0 va pa c3 c4 c5 c6 c7 c8 c9 sp nv np cc fA i v (v + 1) (v + 2) (v + 3) (v + 4) (v + 5) (v + 6) (v + 7) (v + 8) (v + 9) (v + 10) (v + 11) v15 (V i).p (nI (V i).lc) (V i).de gl (V i).ta p1 p2 p3 hi hnv hv ok1, vaP_cons A0 (vaP_cons g9 (vaP_cons (hP0 0 _ rfl) (vaP_cons (hP0 11 _ rfl) vaP_nil))), D_tags (tl := [1, 20, 3, 29]) (by show [Γ x0, Γ va, Γ v, Γ (v + 11)] = _; rw [tx, ea, tv, s11]) (by decide) (by decide), fun x u H1 hp hP hz hk hT1 hun => ?_⟩
      obtain ⟨rfl, rfl⟩ := hp
      refine ⟨congrArg Value.int (by rw [vAns_ok hnv hi]; try rfl), ?_⟩
      rw [vNew_ok hnv hi]
      have hin : ∀ m ∈ ([0, 11] : List Nat), m ≤ 11 := by decide
      have hK : ∀ m : Nat, m ≤ 11 → m ∉ ([0, 11] : List Nat) → H1[v + m]? = H[v + m]? := fun m h1 h2 => win_same hblk (win_cons (win_t tx (by decide)) (win_cons (win_t ea (by decide)) (win_cons (Or.inr ⟨0, by decide, rfl⟩) (win_cons (Or.inr ⟨11, by decide, rfl⟩) (win_nil))))) hin h1 h2 hT hk
      exact RCV.upd hnv hT tx g1 g9 g10 g14 hi hv (win_cons (win_t tx (by decide)) (win_cons (win_t ea (by decide)) (win_cons (Or.inr ⟨0, by decide, rfl⟩) (win_cons (Or.inr ⟨11, by decide, rfl⟩) (win_nil))))) hin hk (FE_at (k := 1) (hP 0 _ rfl) rfl (by decide) rfl) (hP 1 _ rfl) ⟨FE_at (k := 10) (hP 0 _ rfl) rfl (by decide) rfl, hun.fld es (by decide) rfl rfl g16, g17.kept (win_sp hspb hblk (win_cons (win_t tx (by decide)) (win_cons (win_t ea (by decide)) (win_cons (Or.inr ⟨0, by decide, rfl⟩) (win_cons (Or.inr ⟨11, by decide, rfl⟩) (win_nil))))) hin hT hk)⟩ (w := (fun w : VV => (w.sta ((F_X11_tale1 w.p w.ta p1 p2 p3).2))) (V i)) ok0 ⟨gl, v15, vaP_cons (hP 2 _ rfl) (vaP_cons (va_at.kept (hP0 1 _ rfl) (hK 1 (by omega) (by decide))) (vaP_cons (va_at.kept (hP0 2 _ rfl) (hK 2 (by omega) (by decide))) (vaP_cons (va_at.kept (hP0 3 _ rfl) (hK 3 (by omega) (by decide))) (vaP_cons (va_at.kept (hP0 4 _ rfl) (hK 4 (by omega) (by decide))) (vaP_cons (va_at.kept (hP0 5 _ rfl) (hK 5 (by omega) (by decide))) (vaP_cons (va_at.kept (hP0 6 _ rfl) (hK 6 (by omega) (by decide))) (vaP_cons (va_at.kept (hP0 7 _ rfl) (hK 7 (by omega) (by decide))) (vaP_cons (va_at.kept (hP0 8 _ rfl) (hK 8 (by omega) (by decide))) (vaP_cons (va_at.kept (hP0 9 _ rfl) (hK 9 (by omega) (by decide))) (vaP_cons (va_at.kept (hP0 10 _ rfl) (hK 10 (by omega) (by decide))) (vaP_cons (hP 3 _ rfl) (vaP_nil))))))))))))⟩

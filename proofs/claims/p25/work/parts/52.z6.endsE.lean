set_option maxHeartbeats 4000000 in
theorem E11_endsV {l : Launch} {g : GG} {Γ : Nat → Nat} {x0 n nv np : Nat} {fb : Nat → Int32} {V : Nat → VV} (hU : UQ TS0 Γ) (hnv : nv ≤ 10) (tx : Γ x0 = 1) (p0 : Int32) (p1 : Int32) : EX l g yX11_ends cX11_ends 4 (some .int) pX11_ends_0 Γ [.ref x0, .int p0, .int p1] (fun H => RC1 g x0 n fb nv np H ∧ RCV g x0 nv V H) (fun _ v H1 => v = .int (vAns nv V p0 (-1) (fun w => F_X11_ends1 w.p w.lc w.L p1)) ∧ RCV g x0 nv V H1) :=
  EX_of (SX11_ends_0 l g) hU ⟨av_ref tx (by decide), avi_top _, avi_top _, trivial⟩ rfl fun H hT hR => by
    obtain ⟨hR, va, fA, sp, g1, g9, g10, g14, g15, g16, g17⟩ := hR
    obtain ⟨t0, tq, va', pa, sp', fA', fB, ⟨e0, eq, ea, ep, es⟩, h0, h1, h2, h3, h4, h5, h6, h7, h8, -, -, -, -, h13⟩ := hR.tags hT tx
    cases FE_fun g1 h1
    cases FE_fun g15 h3
    have hspb := spb_of hT es h13
    obtain ⟨c3, c4, c5, c6, c7, c8, c9, cc, A0⟩ := DV1 hT tx h0 h1 h2 h3 h4 h5
    rcases vin_cases (n := nv) (by omega) p0 with hb | ⟨i, hi, rfl⟩
    · refine ⟨1, _, _, by decide, K_X11_ends0 l g x0 t0 va pa c3 c4 c5 c6 c7 c8 c9 sp nv np cc fA p0 p1 hb, vaP_cons A0 (vaP_cons g9 vaP_nil), D_tags (tl := [1, 20]) (by show [Γ x0, Γ va] = _; rw [tx, ea]) (by decide) (by decide), fun x u H1 hp hP hz hk hT1 hun => ?_⟩
      obtain ⟨rfl, rfl⟩ := hp
      refine ⟨congrArg Value.int (by rw [vAns_no hb]; rfl), ?_⟩
      exact RCV.keep ⟨va, fA, sp, g1, g9, g10, g14, g15, g16, g17⟩ hnv hT hT1 tx hun rfl
    · obtain ⟨ok, v, hv, hV⟩ := g10 i hi
      have tv := RCV.tag hT tx g1 g9 (by omega) hv
      have hblk := hV.blk hT tv
      obtain ⟨s1, s2, s3, s4, s5, s6, s7, s8, s9, s10, s11⟩ := hV.tags hT tv
      obtain ⟨gl, v15, hP0⟩ := hV
      have ok0 := ok
      obtain ⟨ok1, ok2, ok3, ok4⟩ := ok
      refine ⟨4, _, _, by decide, K_X11_ends1 l g x0 t0 va pa c3 c4 c5 c6 c7 c8 c9 sp nv np cc fA i v (v + 1) (v + 2) (v + 3) (v + 4) (v + 5) (v + 6) (v + 7) (v + 8) (v + 9) (v + 10) (v + 11) v15 (V i).p (V i).lc (V i).de gl (V i).L p1 hi hnv hv ok1 ok2, vaP_cons A0 (vaP_cons g9 (vaP_cons (hP0 0 _ rfl) (vaP_cons (hP0 7 _ rfl) vaP_nil))), D_tags (tl := [1, 20, 3, 25]) (by show [Γ x0, Γ va, Γ v, Γ (v + 7)] = _; rw [tx, ea, tv, s7]) (by decide) (by decide), fun x u H1 hp hP hz hk hT1 hun => ?_⟩
      obtain ⟨rfl, rfl⟩ := hp
      refine ⟨congrArg Value.int (by rw [vAns_ok hnv hi]; try rfl), ?_⟩
      have hin : ∀ m ∈ ([0, 7] : List Nat), m ≤ 11 := by decide
      have hK : ∀ m : Nat, m ≤ 11 → m ∉ ([0, 7] : List Nat) → H1[v + m]? = H[v + m]? := fun m h1 h2 => win_same hblk (win_cons (win_t tx (by decide)) (win_cons (win_t ea (by decide)) (win_cons (Or.inr ⟨0, by decide, rfl⟩) (win_cons (Or.inr ⟨7, by decide, rfl⟩) (win_nil))))) hin h1 h2 hT hk
      exact RCV.keep ⟨va, fA, sp, g1, g9, g10, g14, g15, g16, g17⟩ hnv hT hT1 tx hun rfl
set_option maxHeartbeats 8000000 in
theorem E12_endsP {l : Launch} {g : GG} {Γ : Nat → Nat} {m0 n nv np : Nat} {fb : Nat → Int32} {V : Nat → VV} (hU : UQ TS0 Γ) (hnv : nv ≤ 10) (tm : Γ m0 = 60) (p0 p1 : Int32) : EX l g yX12_ends cX12_ends 4 (some .int) pX12_ends_0 Γ [.ref m0, .int p0, .int p1] (fun H => RR1 g m0 n fb nv np H ∧ RRV g m0 nv V H) (fun _ v _ => v = .int (vAns nv V p0 (-1) (fun w => F_X11_ends1 w.p w.lc w.L p1))) :=
  EX_of (SX12_ends_0 l g) hU ⟨av_ref tm (by decide), avi_top _, avi_top _, trivial⟩ rfl fun H hT hR => by
    obtain ⟨hR, B, F, hB, hV⟩ := hR
    obtain ⟨tr, er, h1, h2, h3, h4, h5⟩ := hR.tags hT tm
    obtain ⟨ws, A0, hv⟩ := h_obj hT (by rw [tm]; decide) ((congrArg TS0.1 tm).trans rfl)
    have hlen := KV_len (KV_of hv)
    have F18 := at_fe (k := 18) A0 rfl (by rw [hlen]; decide) h3
    have G6 := at_fe (k := 6) A0 rfl (by rw [hlen]; decide) (hB 6 (by decide)).1
    have G7 := at_fe (k := 7) A0 rfl (by rw [hlen]; decide) (hB 7 (by decide)).1
    have G12 := at_fe (k := 12) A0 rfl (by rw [hlen]; decide) (hB 12 (by decide)).1
    have G13 := at_fe (k := 13) A0 rfl (by rw [hlen]; decide) (hB 13 (by decide)).1
    have G17 := at_fe (k := 17) A0 rfl (by rw [hlen]; decide) (hB 17 (by decide)).1
    have t6 := (hB.tag hT tm (k := 6) (by decide)).1
    have t7 := (hB.tag hT tm (k := 7) (by decide)).1
    have t12 := (hB.tag hT tm (k := 12) (by decide)).1
    have t13 := (hB.tag hT tm (k := 13) (by decide)).1
    have t17 := (hB.tag hT tm (k := 17) (by decide)).1
    have tg : [Γ m0, Γ (B 6), Γ (B 7), Γ (B 12), Γ (B 13), Γ (B 17)] = [60, 62, 63, 66, 122, 69] := by rw [tm, t6, t7, t12, t13, t17]; rfl
    refine ⟨2, _, _, by decide, K_X12_ends l g m0 ws nv (B 6) (F 6) (B 7) (F 7) (B 12) (F 12) (B 13) (F 13) (B 17) (F 17) p0 p1 hlen F18 G6 G7 G12 G13 G17 hnv hV.lc, vaP_cons A0 (vaP_cons (hB 6 (by decide)).2 (vaP_cons (hB 7 (by decide)).2 (vaP_cons (hB 12 (by decide)).2 (vaP_cons (hB 13 (by decide)).2 (vaP_cons (hB 17 (by decide)).2 vaP_nil))))), D_tags (tl := [60, 62, 63, 66, 122, 69]) tg (by decide) (by decide), fun x u H1 hp hP hz hk hT1 hun => ?_⟩
    rw [hp.1, ends_agree hnv hV (owb_of hT tm hB hV hnv)]

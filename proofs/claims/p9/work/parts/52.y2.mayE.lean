theorem owb_of {g : GG} {Γ : Nat → Nat} {H : Heap} {m0 nv : Nat} {B : Nat → Nat} {F : Nat → Nat → Int32} {V : Nat → VV} (hT : HT g TS0 Γ H) (tm : Γ m0 = 60) (hB : RRVB g m0 B F H) (hV : RPW nv V F) (hnv : nv ≤ 10) : ∀ i : Nat, i < nv → OWB (V i) := fun i hi j hj => by
  obtain ⟨e, -⟩ := hB.tag hT tm (k := 17) (by decide)
  obtain ⟨f, h1, h2⟩ := h_ints (g := g) (k := 3) (n := 132) (a := vi 0 1) (by decide) hT (by rw [e]; decide) ((congrArg TS0.1 e).trans rfl)
  obtain ⟨ok, hr⟩ := hV i hi
  have hlc := ok.2.1
  have h3 := (AT_fun (show AT g 3 132 (B 17) (F 17) H from (hB 17 (by decide)).2) h1 (j := 12 * i + j) (by omega)).2
  obtain ⟨k, h4, -, h5⟩ := avi_nn (h2 (12 * i + j) (by omega))
  have e17 := (hr.2.2.2.2.1 j hj).2.2.2.2.2
  rw [← e17, h3, h4]
  have : k = 0 ∨ k = 1 := by omega
  rcases this with rfl | rfl
  · exact Or.inl rfl
  · exact Or.inr rfl
set_option maxHeartbeats 8000000 in
theorem E12_mayP {l : Launch} {g : GG} {Γ : Nat → Nat} {m0 n nv np : Nat} {fb : Nat → Int32} {V : Nat → VV} (hU : UQ TS0 Γ) (hnv : nv ≤ 10) (tm : Γ m0 = 60) (p0 p1 p2 p3 : Int32) : EX l g yX12_may cX12_may 5 (some .int) pX12_may_0 Γ [.ref m0, .int p0, .int p1, .int p2, .int p3] (fun H => RR1 g m0 n fb nv np H ∧ RRV g m0 nv V H ∧ RMM g m0 H) (fun _ v _ => v = .int (vAns nv V p0 (-1) (fun w => F_X11_may1 w.p (kx w) p1 p2 p3))) :=
  EX_of (SX12_may_0 l g) hU ⟨av_ref tm (by decide), avi_top _, avi_top _, avi_top _, avi_top _, trivial⟩ rfl fun H hT hR => by
    obtain ⟨hR, ⟨B, F, hB, hV⟩, M19, M20⟩ := hR
    obtain ⟨tr, er, h1, h2, h3, h4, h5⟩ := hR.tags hT tm
    obtain ⟨ws, A0, hv⟩ := h_obj hT (by rw [tm]; decide) ((congrArg TS0.1 tm).trans rfl)
    have hlen := KV_len (KV_of hv)
    have F18 := at_fe (k := 18) A0 rfl (by rw [hlen]; decide) h3
    have F19 := at_fe (k := 19) A0 rfl (by rw [hlen]; decide) M19
    have F20 := at_fe (k := 20) A0 rfl (by rw [hlen]; decide) M20
    have G6 := at_fe (k := 6) A0 rfl (by rw [hlen]; decide) (hB 6 (by decide)).1
    have G7 := at_fe (k := 7) A0 rfl (by rw [hlen]; decide) (hB 7 (by decide)).1
    have G12 := at_fe (k := 12) A0 rfl (by rw [hlen]; decide) (hB 12 (by decide)).1
    have G13 := at_fe (k := 13) A0 rfl (by rw [hlen]; decide) (hB 13 (by decide)).1
    have G14 := at_fe (k := 14) A0 rfl (by rw [hlen]; decide) (hB 14 (by decide)).1
    have G15 := at_fe (k := 15) A0 rfl (by rw [hlen]; decide) (hB 15 (by decide)).1
    have G16 := at_fe (k := 16) A0 rfl (by rw [hlen]; decide) (hB 16 (by decide)).1
    have G17 := at_fe (k := 17) A0 rfl (by rw [hlen]; decide) (hB 17 (by decide)).1
    have t6 := (hB.tag hT tm (k := 6) (by decide)).1
    have t7 := (hB.tag hT tm (k := 7) (by decide)).1
    have t12 := (hB.tag hT tm (k := 12) (by decide)).1
    have t13 := (hB.tag hT tm (k := 13) (by decide)).1
    have t14 := (hB.tag hT tm (k := 14) (by decide)).1
    have t15 := (hB.tag hT tm (k := 15) (by decide)).1
    have t16 := (hB.tag hT tm (k := 16) (by decide)).1
    have t17 := (hB.tag hT tm (k := 17) (by decide)).1
    have tg : [Γ m0, Γ (B 6), Γ (B 7), Γ (B 12), Γ (B 13), Γ (B 14), Γ (B 15), Γ (B 16), Γ (B 17)] = [60, 62, 63, 66, 122, 67, 123, 68, 69] := by rw [tm, t6, t7, t12, t13, t14, t15, t16, t17]; rfl
    refine ⟨2, _, _, by decide, K_X12_may l g m0 ws nv (B 6) (F 6) (B 7) (F 7) (B 12) (F 12) (B 13) (F 13) (B 14) (F 14) (B 15) (F 15) (B 16) (F 16) (B 17) (F 17) p0 p1 p2 p3 hlen F18 G6 G7 G12 G13 G14 G15 G16 G17 F19 F20 hnv hV.lc hV.pe, vaP_cons A0 (vaP_cons (hB 6 (by decide)).2 (vaP_cons (hB 7 (by decide)).2 (vaP_cons (hB 12 (by decide)).2 (vaP_cons (hB 13 (by decide)).2 (vaP_cons (hB 14 (by decide)).2 (vaP_cons (hB 15 (by decide)).2 (vaP_cons (hB 16 (by decide)).2 (vaP_cons (hB 17 (by decide)).2 vaP_nil)))))))), D_tags (tl := [60, 62, 63, 66, 122, 67, 123, 68, 69]) tg (by decide) (by decide), fun x u H1 hp hP hz hk hT1 hun => ?_⟩
    rw [hp.1, may_agree hnv hV (owb_of hT tm hB hV hnv)]

/-! line of the reference -/
theorem fe_at0 {g : GG} {q : Nat} {H : Heap} {vs : List Value} {v : Value} (h : va_at g.1 CLS (q, .inr (12, vs)) H) (e : vs[0]? = some v) : FE g q 12 0 H v := FE_at (k := 0) h rfl (by decide) e
section
variable {nv : Nat} {V : Nat → VV} {F : Nat → Nat → Int32} {p0 p1 p2 : Int32}
theorem isl_eq (hnv : nv ≤ 10) (hV : RPW nv V F) : F_X12_isLine nv (F 7) p0 p1 = (if F_X12_isValley nv p0 = 0 then 0 else F_X10_hasLine (nI (V (tN p0)).lc) p1) := by
  unfold F_X12_isLine
  by_cases h : F_X12_isValley nv p0 = 0
  · rw [if_pos h, if_pos h]
  · rw [if_neg h, if_neg h]
    obtain ⟨e1, e2⟩ := rv_at (n := nv) (by omega) h
    obtain ⟨ok, hr⟩ := hV (tN p0) e2
    have hlc := ok.2.1
    rw [hr.2.1, show F_X10_hasLine (nI (V (tN p0)).lc) p1 = F_X10_hasPerson (nI (V (tN p0)).lc) p1 from rfl, per_eq (by omega)]
    unfold F_X10_hasPerson
    by_cases a : p1 < 0
    · rw [if_pos a, if_pos rfl]
    · rw [if_neg a]
      by_cases b : nI (V (tN p0)).lc ≤ p1
      · rw [if_pos b, if_pos rfl]
      · rw [if_neg b, if_neg (show ¬ (1 : Int32) = 0 by decide)]
theorem lnO_no (hnv : nv ≤ 10) (hV : RPW nv V F) (h : F_X12_isLine nv (F 7) p0 p1 = 0 ∨ F_X12_isIn p2 0 5 = 0) : lnO nv V p0 p1 p2 = none := by
  rcases h with h | h
  · rw [isl_eq hnv hV] at h
    by_cases q : F_X12_isValley nv p0 = 0
    · exact lnO_v q
    · rw [if_neg q] at h
      exact lnO_l h
  · by_cases q : p2 < 0
    · exact lnO_0 q
    · refine lnO_6 q fun z => ?_
      unfold F_X12_isIn at h
      rw [if_neg q, if_neg (fun y : 5 < p2 => by
        have y1 := Int32.lt_iff_toInt_lt.mp y
        have z1 := Int32.lt_iff_toInt_lt.mp z
        rw [show (5 : Int32).toInt = 5 from by decide] at y1
        rw [show (6 : Int32).toInt = 6 from by decide] at z1
        omega)] at h
      exact absurd h (by decide)
theorem lnO_yes (hnv : nv ≤ 10) (hV : RPW nv V F) (ow : ∀ i : Nat, i < nv → OWB (V i)) (h1 : ¬ F_X12_isLine nv (F 7) p0 p1 = 0) (h2 : ¬ F_X12_isIn p2 0 5 = 0) : lnO nv V p0 p1 p2 = some (F_X12_line1 (F 12) (F 13) (F 14) (F 15) (F 16) (F 17) p0 p1 p2) := by
  rw [isl_eq hnv hV] at h1
  by_cases q : F_X12_isValley nv p0 = 0
  · rw [if_pos q] at h1; exact absurd rfl h1
  · rw [if_neg q] at h1
    obtain ⟨e1, e2⟩ := rv_at (n := nv) (by omega) q
    obtain ⟨ok, hr⟩ := hV (tN p0) e2
    have hlc := ok.2.1
    obtain ⟨y1, y2⟩ := hl_at (n := (V (tN p0)).lc) (by omega) h1
    obtain ⟨z1, z2⟩ := in_at h2
    have z3 : p2 < 6 := Int32.lt_iff_toInt_lt.mpr (by
      have := Int32.le_iff_toInt_le.mp z2
      rw [show (5 : Int32).toInt = 5 from by decide] at this
      rw [show (6 : Int32).toInt = 6 from by decide]
      omega)
    rw [lnO_y q h1 (Int32.not_lt.mpr z1) z3]
    obtain ⟨f12, f13, f14, f15, f16, f17⟩ := hr.2.2.2.2.1 (tN p1) y2
    unfold F_X12_line1
    rcases i32_06 (Int32.not_lt.mpr z1) z3 with rfl | rfl | rfl | rfl | rfl | rfl
    · rw [if_pos rfl, f12]; rfl
    · rw [if_neg (by decide), if_pos rfl, f13]; rfl
    · rw [if_neg (by decide), if_neg (by decide), if_pos rfl, f14]; rfl
    · rw [if_neg (by decide), if_neg (by decide), if_neg (by decide), if_pos rfl, f15]; rfl
    · rw [if_neg (by decide), if_neg (by decide), if_neg (by decide), if_neg (by decide), if_pos rfl, f17]
      show some ((V (tN p0)).L (tN p1 * 6 + 4)) = _
      rcases ow _ e2 (tN p1) y2 with w | w
      · rw [w, if_pos rfl]
      · rw [w, if_neg (show ¬ (1 : Int32) = 0 by decide)]
    · rw [if_neg (by decide), if_neg (by decide), if_neg (by decide), if_neg (by decide), if_neg (by decide), f16]; rfl
end
/-- whether line threw, as the reference tells it -/
abbrev lnT (o : Option Int32) : Int32 := if o.isSome then 0 else 1

set_option maxHeartbeats 8000000 in
theorem E12_lineP {l : Launch} {g : GG} {Γ : Nat → Nat} {m0 n nv np : Nat} {fb : Nat → Int32} {V : Nat → VV} (hU : UQ TS0 Γ) (hnv : nv ≤ 10) (tm : Γ m0 = 60) (p0 p1 p2 : Int32) : EX l g yX12_line cX12_line 5 (some .int) pX12_line_0 Γ [.ref m0, .int p0, .int p1, .int p2] (fun H => RR1 g m0 n fb nv np H ∧ RRV g m0 nv V H) (fun _ v H1 => v = .int ((lnO nv V p0 p1 p2).getD 0) ∧ FE g m0 12 0 H1 (.int (lnT (lnO nv V p0 p1 p2)))) :=
  EX_of (SX12_line_0 l g) hU ⟨av_ref tm (by decide), avi_top _, avi_top _, avi_top _, trivial⟩ rfl fun H hT hR => by
    obtain ⟨hR, B, F, hB, hV⟩ := hR
    obtain ⟨tr, er, h1, h2, h3, h4, h5⟩ := hR.tags hT tm
    obtain ⟨ws, A0, hv⟩ := h_obj hT (by rw [tm]; decide) ((congrArg TS0.1 tm).trans rfl)
    have hlen := KV_len (KV_of hv)
    have F18 := at_fe (k := 18) A0 rfl (by rw [hlen]; decide) h3
    have G7 := at_fe (k := 7) A0 rfl (by rw [hlen]; decide) (hB 7 (by decide)).1
    have G12 := at_fe (k := 12) A0 rfl (by rw [hlen]; decide) (hB 12 (by decide)).1
    have G13 := at_fe (k := 13) A0 rfl (by rw [hlen]; decide) (hB 13 (by decide)).1
    have G14 := at_fe (k := 14) A0 rfl (by rw [hlen]; decide) (hB 14 (by decide)).1
    have G15 := at_fe (k := 15) A0 rfl (by rw [hlen]; decide) (hB 15 (by decide)).1
    have G16 := at_fe (k := 16) A0 rfl (by rw [hlen]; decide) (hB 16 (by decide)).1
    have G17 := at_fe (k := 17) A0 rfl (by rw [hlen]; decide) (hB 17 (by decide)).1
    have t7 : Γ (B 7) = 63 := (hB.tag hT tm (k := 7) (by decide)).1
    have t12 : Γ (B 12) = 66 := (hB.tag hT tm (k := 12) (by decide)).1
    have t13 : Γ (B 13) = 122 := (hB.tag hT tm (k := 13) (by decide)).1
    have t14 : Γ (B 14) = 67 := (hB.tag hT tm (k := 14) (by decide)).1
    have t15 : Γ (B 15) = 123 := (hB.tag hT tm (k := 15) (by decide)).1
    have t16 : Γ (B 16) = 68 := (hB.tag hT tm (k := 16) (by decide)).1
    have t17 : Γ (B 17) = 69 := (hB.tag hT tm (k := 17) (by decide)).1
    by_cases hbad : F_X12_isLine nv (F 7) p0 p1 = 0 ∨ F_X12_isIn p2 0 5 = 0
    · have e := lnO_no (p2 := p2) hnv hV hbad
      refine ⟨2, _, _, by decide, K_X12_line0 l g m0 ws nv (B 7) (F 7) p0 p1 p2 hlen F18 G7 hnv hbad, vaP_cons A0 (vaP_cons (hB 7 (by decide)).2 vaP_nil), D_tags (tl := [60, 63]) (by show [Γ m0, Γ (B 7)] = _; rw [tm, t7]) (by decide) (by decide), fun x u H1 hp hP hz hk hT1 hun => ?_⟩
      obtain ⟨hx, rfl⟩ := hp
      rw [e]
      refine ⟨congrArg Value.int (hx.trans ?_), fe_at0 (hP 0 _ rfl) (sv_eq (k := 0) (n := 64) (by decide) hlen)⟩
      unfold F_X12_line0
      by_cases q : F_X12_isLine nv (F 7) p0 p1 = 0
      · rw [if_pos q]; rfl
      · rw [if_neg q]
        by_cases q2 : F_X12_isIn p2 0 5 = 0
        · rw [if_pos q2]; rfl
        · rw [if_neg q2]; rfl
    · have hv9 : ¬ F_X12_isLine nv (F 7) p0 p1 = 0 := fun q => hbad (Or.inl q)
      have hz9 : ¬ F_X12_isIn p2 0 5 = 0 := fun q => hbad (Or.inr q)
      have e := lnO_yes hnv hV (owb_of hT tm hB hV hnv) hv9 hz9
      refine ⟨2, _, _, by decide, K_X12_line1 l g m0 ws nv (B 7) (F 7) (B 12) (F 12) (B 13) (F 13) (B 14) (F 14) (B 15) (F 15) (B 16) (F 16) (B 17) (F 17) p0 p1 p2 hlen F18 G7 G12 G13 G14 G15 G16 G17 hnv hV.lc hv9 hz9, vaP_cons A0 (vaP_cons (hB 7 (by decide)).2 (vaP_cons (hB 12 (by decide)).2 (vaP_cons (hB 13 (by decide)).2 (vaP_cons (hB 14 (by decide)).2 (vaP_cons (hB 15 (by decide)).2 (vaP_cons (hB 16 (by decide)).2 (vaP_cons (hB 17 (by decide)).2 vaP_nil))))))), D_tags (tl := [60, 63, 66, 122, 67, 123, 68, 69]) (by show [Γ m0, Γ (B 7), Γ (B 12), Γ (B 13), Γ (B 14), Γ (B 15), Γ (B 16), Γ (B 17)] = _; rw [tm, t7, t12, t13, t14, t15, t16, t17]) (by decide) (by decide), fun x u H1 hp hP hz hk hT1 hun => ?_⟩
      obtain ⟨hx, rfl⟩ := hp
      rw [e]
      exact ⟨congrArg Value.int hx, fe_at0 (hP 0 _ rfl) (sv_eq (k := 0) (n := 64) (by decide) hlen)⟩

noncomputable def pX12_thrown_h0 : SPEC := (0, [vr 60], vi 0 1, [], [], [])
theorem SX12_thrown_h0 (l : Launch) (g : GG) : SM l g TS0 yX12_thrown cX12_thrown 1 (some .int) pX12_thrown_h0 := SM_emb fun Γ As hU hV U hT hPF => by
  obtain ⟨v1, s1, rfl, w1, hv9⟩ := vr_cons (show VR g Γ [vr 60] As from hV)
  obtain rfl := vr_nil hv9
  obtain ⟨m0, rfl, tm, -⟩ := avi_ref rfl w1
  have tm : Γ m0 = 60 := tm
  obtain ⟨vs, A0, hv⟩ := h_obj hT (by rw [tm]; decide) ((congrArg TS0.1 tm).trans rfl)
  have hlen := KV_len (KV_of hv)
  obtain ⟨w, e0, a0⟩ := hv.get (k := 0) rfl
  obtain ⟨t, rfl, t0, t1⟩ := avi_int rfl a0
  have hP : va_P g.1 CLS [(m0, .inr (12, vs))] U.heap := vaP_cons A0 vaP_nil
  have hD := (D_tags (tl := [60]) (by show [Γ m0] = _; rw [tm]) (by decide) (by decide) : va_D (fun q => Γ q ≠ 0) [(m0, .inr (12, vs))])
  refine ⟨_, _, K_X12_thrown l g m0 vs t hlen e0 U.heap.size, hP, hD, fun a o T hQ hsz => ?_⟩
  obtain ⟨⟨x, u, ho, ⟨hx, rfl⟩, hB⟩, hF⟩ := hQ
  exact SQ_of (v := some (.int x)) hT hP hB.1 hD hF hsz ⟨⟨rfl, rfl, _, (congrArg TS0.1 tm).trans rfl, OS.refl hv, _, rfl, Nat.le_of_eq hlen.symm⟩, trivial⟩ (fun hun => hT.2.keep hun (by decide)) ho ⟨⟨rfl, by rw [hx]; exact t0, by rw [hx]; exact t1⟩, fun q hq => absurd hq List.not_mem_nil⟩
theorem E12_thrownP {l : Launch} {g : GG} {Γ : Nat → Nat} {m0 : Nat} {t : Int32} (hU : UQ TS0 Γ) (tm : Γ m0 = 60) : EX l g yX12_thrown cX12_thrown 1 (some .int) pX12_thrown_h0 Γ [.ref m0] (fun H => FE g m0 12 0 H (.int t)) (fun _ v _ => v = .int t) :=
  EX_of (SX12_thrown_h0 l g) hU ⟨av_ref tm (by decide), trivial⟩ rfl fun H hT h0 => by
    obtain ⟨ws, A0, hv⟩ := h_obj hT (by rw [tm]; decide) ((congrArg TS0.1 tm).trans rfl)
    have hlen := KV_len (KV_of hv)
    have F0_ := at_fe (k := 0) A0 rfl (by rw [hlen]; decide) h0
    exact ⟨0, _, _, by decide, K_X12_thrown l g m0 ws t hlen F0_, vaP_cons A0 vaP_nil, D_tags (tl := [60]) (by show [Γ m0] = _; rw [tm]) (by decide) (by decide), fun x u H1 hp hP hz hk hT1 hun => congrArg Value.int hp.1⟩

/-! the reference's plans: its rows by their fields -/
def PKS : List Nat := [21, 22, 23, 24, 25, 26]
def PKT : Nat → Nat := fun k => if k = 21 then 70 else if k = 22 then 71 else if k = 23 then 72 else if k = 24 then 73 else if k = 25 then 74 else if k = 26 then 75 else 0
def PKN : Nat → Nat := fun k => if k = 21 then 12 else if k = 22 then 12 else 480
/-- the plans in the reference's rows -/
def RPP (np : Nat) (P : Nat → PP) (G : Nat → Nat → Int32) : Prop := ∀ j : Nat, j < np → G 21 j = nI (P j).v ∧ G 22 j = nI (P j).c ∧ ∀ k : Nat, k < (P j).c → G 23 (40 * j + k) = (P j).h k ∧ G 24 (40 * j + k) = (P j).k k ∧ G 25 (40 * j + k) = (P j).a k ∧ G 26 (40 * j + k) = (P j).b k
def RRPB (g : GG) (m0 : Nat) (B : Nat → Nat) (G : Nat → Nat → Int32) (H : Heap) : Prop := ∀ k ∈ PKS, FE g m0 12 k H (.ref (B k)) ∧ AT g 1 (PKN k) (B k) (G k) H
def RRP (g : GG) (m0 np : Nat) (P : Nat → PP) (H : Heap) : Prop := ∃ (B : Nat → Nat) (G : Nat → Nat → Int32), RRPB g m0 B G H ∧ RPP np P G
section
variable {g : GG} {Γ : Nat → Nat} {H H1 : Heap} {m0 np np' : Nat} {P P' : Nat → PP} {B : Nat → Nat} {G G' : Nat → Nat → Int32} {mods : List (Nat × Nat)}
theorem RRPB.tag (h : RRPB g m0 B G H) (hT : HT g TS0 Γ H) (tm : Γ m0 = 60) {k : Nat} (hk : k ∈ PKS) : Γ (B k) = PKT k ∧ PKT k ≠ 0 ∧ ∃ x, TS0.1 (PKT k) = .inr x := by
  have h1 := (h k hk).1
  simp only [PKS, List.mem_cons, List.not_mem_nil, or_false] at hk
  rcases hk with rfl | rfl | rfl | rfl | rfl | rfl
  · exact ⟨(ref_tag (k := 21) (u := 70) hT tm (by decide) rfl rfl h1).1, by decide, _, rfl⟩
  · exact ⟨(ref_tag (k := 22) (u := 71) hT tm (by decide) rfl rfl h1).1, by decide, _, rfl⟩
  · exact ⟨(ref_tag (k := 23) (u := 72) hT tm (by decide) rfl rfl h1).1, by decide, _, rfl⟩
  · exact ⟨(ref_tag (k := 24) (u := 73) hT tm (by decide) rfl rfl h1).1, by decide, _, rfl⟩
  · exact ⟨(ref_tag (k := 25) (u := 74) hT tm (by decide) rfl rfl h1).1, by decide, _, rfl⟩
  · exact ⟨(ref_tag (k := 26) (u := 75) hT tm (by decide) rfl rfl h1).1, by decide, _, rfl⟩
theorem RRP.upd {ks : List Nat} (h : RRPB g m0 B G H) (hT : HT g TS0 Γ H) (tm : Γ m0 = 60) (hu : Un g TS0 Γ mods H H1) (hm1 : mdn (PKS.map fun k => (60, k)) mods = true) (hm2 : (PKS.all fun k => ks.elem k || !(md mods (PKT k) 0)) = true) (hF : ∀ k : Nat, ks.elem k = false → G' k = G k) (hnew : ∀ k ∈ ks, AT g 1 (PKN k) (B k) (G' k) H1) (hp : RPP np' P' G') : RRP g m0 np' P' H1 := by
  refine ⟨B, G', fun k hk => ⟨?_, ?_⟩, hp⟩
  · exact hu.fld tm (by decide) rfl (mdn_at hm1 (List.mem_map.mpr ⟨k, hk, rfl⟩)) (h k hk).1
  · cases e : ks.elem k with
    | true => exact hnew k (List.elem_iff.mp e)
    | false =>
      rw [hF k e]
      obtain ⟨h1, h2, x, h3⟩ := h.tag hT tm hk
      have h4 := List.all_eq_true.mp hm2 k hk
      rw [e, Bool.false_or, Bool.not_eq_true'] at h4
      exact (h k hk).2.kept (hu.arr h1 h2 h3 h4)
theorem RRP.keep (h : RRP g m0 np P H) (hT : HT g TS0 Γ H) (tm : Γ m0 = 60) (hu : Un g TS0 Γ mods H H1) (hm1 : mdn (PKS.map fun k => (60, k)) mods = true) (hm2 : (PKS.all fun k => !(md mods (PKT k) 0)) = true) : RRP g m0 np P H1 := by
  obtain ⟨B, G, h1, h2⟩ := h
  exact RRP.upd (ks := []) h1 hT tm hu hm1 (List.all_eq_true.mpr fun k hk => by rw [List.all_eq_true.mp hm2 k hk]; exact Bool.or_true _) (fun _ _ => rfl) (fun k hk => absurd hk List.not_mem_nil) h2
theorem RRP.same (h : RRP g m0 np P H) (hT : HT g TS0 Γ H) (tm : Γ m0 = 60) (ho : OLDP Γ H H1) : RRP g m0 np P H1 := by
  obtain ⟨B, G, h1, h2⟩ := h
  refine ⟨B, G, fun k hk => ⟨FE_kept (h1 k hk).1 (ho m0 (Or.inl tm)), (h1 k hk).2.kept (ho _ (Or.inr ?_))⟩, h2⟩
  have e := (h1.tag hT tm hk).1
  simp only [PKS, List.mem_cons, List.not_mem_nil, or_false] at hk
  rcases hk with rfl | rfl | rfl | rfl | rfl | rfl <;> (rw [e]; decide)
end
def gset (G : Nat → Nat → Int32) (c h k a b : Nat → Int32) : Nat → Nat → Int32 := fun j => if j = 22 then c else (if j = 23 then h else (if j = 24 then k else (if j = 25 then a else (if j = 26 then b else G j))))
theorem gset_id {G : Nat → Nat → Int32} : gset G (G 22) (G 23) (G 24) (G 25) (G 26) = G := funext fun j => by
  unfold gset
  split
  · rename_i e; rw [e]
  · split
    · rename_i e; rw [e]
    · split
      · rename_i e; rw [e]
      · split
        · rename_i e; rw [e]
        · split
          · rename_i e; rw [e]
          · rfl
theorem room_yes {c : Nat} (h : c < 40) : ¬ F_X4_hasRoom c = 0 := by
  unfold F_X4_hasRoom
  rw [if_neg (fun q => by have := (nI_leI (a := 40) (b := c) (by omega) (by omega)).mp q; omega)]
  decide
theorem room_no : F_X4_hasRoom 40 = 0 := by decide
/-- calls of the other plans stand where they stood -/
theorem call_rows {np i : Nat} {P : Nat → PP} {G : Nat → Nat → Int32} {nv : Nat} {V : Nat → VV} {ho ki on ot : Int32} (hZ : PLW nv V np P) (hG : RPP np P G) (hi : i < np) (hc : (P i).c < 40) : RPP np (pset P i (pOf (P i) ho ki on ot)) (gset G (upd (G 22) i (nI ((P i).c + 1))) (upd (G 23) (40 * i + (P i).c) ho) (upd (G 24) (40 * i + (P i).c) ki) (upd (G 25) (40 * i + (P i).c) on) (upd (G 26) (40 * i + (P i).c) ot)) := fun j hj => by
  show G 21 j = _ ∧ upd (G 22) i (nI ((P i).c + 1)) j = _ ∧ ∀ k : Nat, k < _ → upd (G 23) (40 * i + (P i).c) ho (40 * j + k) = _ ∧ upd (G 24) (40 * i + (P i).c) ki (40 * j + k) = _ ∧ upd (G 25) (40 * i + (P i).c) on (40 * j + k) = _ ∧ upd (G 26) (40 * i + (P i).c) ot (40 * j + k) = _
  obtain ⟨g1, g2, g3⟩ := hG j hj
  by_cases e : j = i
  · subst e
    rw [pset_eq, upd_eq]
    refine ⟨g1, rfl, fun k hk => ?_⟩
    have hk : k < (P j).c + 1 := hk
    show _ = upd (P j).h (P j).c ho k ∧ _ = upd (P j).k (P j).c ki k ∧ _ = upd (P j).a (P j).c on k ∧ _ = upd (P j).b (P j).c ot k
    by_cases e2 : k = (P j).c
    · subst e2
      rw [upd_eq, upd_eq, upd_eq, upd_eq, upd_eq, upd_eq, upd_eq, upd_eq]
      exact ⟨rfl, rfl, rfl, rfl⟩
    · rw [upd_ne (show ¬ 40 * j + k = 40 * j + (P j).c by omega), upd_ne e2, upd_ne (show ¬ 40 * j + k = 40 * j + (P j).c by omega), upd_ne e2, upd_ne (show ¬ 40 * j + k = 40 * j + (P j).c by omega), upd_ne e2, upd_ne (show ¬ 40 * j + k = 40 * j + (P j).c by omega), upd_ne e2]
      exact g3 k (by omega)
  · rw [pset_ne e, upd_ne e]
    refine ⟨g1, g2, fun k hk => ?_⟩
    have h40 := (hZ j hj).2.1
    have ne : ¬ 40 * j + k = 40 * i + (P i).c := by omega
    rw [upd_ne ne, upd_ne ne, upd_ne ne, upd_ne ne]
    exact g3 k hk
theorem call_agree {nv np : Nat} {V : Nat → VV} {P : Nat → PP} {F G : Nat → Nat → Int32} {x ho ki on ot : Int32} (hnv : nv ≤ 10) (hnp : np ≤ 12) (hV : RPW nv V F) (hZ : PLW nv V np P) (hG : RPP np P G) : (F_X12_call np (F 6) (G 21) (G 22) (G 23) (G 24) (G 25) (G 26) x ho ki on ot).1 = cAns np V P x ho ki on ot ∧ RPP np (cNew np V P x ho ki on ot) (gset G (F_X12_call np (F 6) (G 21) (G 22) (G 23) (G 24) (G 25) (G 26) x ho ki on ot).2.1 (F_X12_call np (F 6) (G 21) (G 22) (G 23) (G 24) (G 25) (G 26) x ho ki on ot).2.2.1 (F_X12_call np (F 6) (G 21) (G 22) (G 23) (G 24) (G 25) (G 26) x ho ki on ot).2.2.2.1 (F_X12_call np (F 6) (G 21) (G 22) (G 23) (G 24) (G 25) (G 26) x ho ki on ot).2.2.2.2.1 (F_X12_call np (F 6) (G 21) (G 22) (G 23) (G 24) (G 25) (G 26) x ho ki on ot).2.2.2.2.2) := by
  have same : RPP np P (gset G (G 22) (G 23) (G 24) (G 25) (G 26)) := by rw [gset_id]; exact hG
  rcases vin_cases (n := np) (by omega) x with hb | ⟨i, hi, rfl⟩
  · rw [cAns_no hb, cNew_no hb]
    unfold F_X12_call
    rw [if_pos (rpl_no hb)]
    exact ⟨rfl, same⟩
  · obtain ⟨hv, hw1, hw2, hw3⟩ := hZ i hi
    obtain ⟨g21, g22, gk⟩ := hG i hi
    obtain ⟨ok, hr⟩ := hV (P i).v hv
    have hp7 := ok.1
    have hper : ∀ y : Int32, F_X12_isPerson (F 6) (P i).v y = F_X10_hasPerson (nI (V (P i).v).p) y := fun y => by
      unfold F_X12_isPerson
      rw [hr.1]
      exact per_eq (by omega)
    rw [cAns_ok hnp hi, cNew_ok hnp hi]
    have no : cFit (P i).c (V (P i).v).p ho ki on ot = 0 → ((-1 : Int32) = if cFit (P i).c (V (P i).v).p ho ki on ot = 0 then -1 else nI (P i).c) ∧ RPP np (if cFit (P i).c (V (P i).v).p ho ki on ot = 0 then P else pset P i (pOf (P i) ho ki on ot)) (gset G (G 22) (G 23) (G 24) (G 25) (G 26)) := fun h => by
      rw [if_pos h, if_pos h]; exact ⟨rfl, same⟩
    unfold F_X12_call
    rw [if_neg (rpl_yes hnp hi), tN_nI (show i < 2 ^ 31 by omega), g21, g22, tN_nI (show (P i).v < 2 ^ 31 by omega), tN_nI (show (P i).c < 2 ^ 31 by omega)]
    by_cases hc : (P i).c = 40
    · rw [if_pos (show nI (P i).c = 40 by rw [hc]; rfl)]
      exact no (fit_full (by rw [hc]; exact room_no))
    · rw [if_neg (show ¬ nI (P i).c = 40 from fun q => hc ((nI_eq (a := (P i).c) (b := 40) (by omega) (by omega)).mp q))]
      by_cases h1 : F_X11_isHour ho = 0
      · rw [if_pos (show F_X12_isHour ho = 0 from h1)]
        exact no (if_pos h1)
      · rw [if_neg (show ¬ F_X12_isHour ho = 0 from h1)]
        by_cases h2 : ki < 0
        · rw [if_pos (show F_X12_isIn ki 0 4 = 0 from if_pos h2)]
          exact no (by unfold cFit; rw [if_neg h1, if_pos h2])
        · by_cases h3 : 4 < ki
          · rw [if_pos (show F_X12_isIn ki 0 4 = 0 by unfold F_X12_isIn; rw [if_neg h2, if_pos h3])]
            exact no (by unfold cFit; rw [if_neg h1, if_neg h2, if_pos h3])
          · rw [if_neg (show ¬ F_X12_isIn ki 0 4 = 0 by unfold F_X12_isIn; rw [if_neg h2, if_neg h3]; decide), hper, hper]
            have fit : cFit (P i).c (V (P i).v).p ho ki on ot = if ki = 3 then F_X10_hasPerson (nI (V (P i).v).p) on else F_X10_hasCouple (nI (V (P i).v).p) on ot := by
              unfold cFit
              rw [if_neg h1, if_neg h2, if_neg h3, if_neg (room_yes (by omega))]
            have yes : ¬ cFit (P i).c (V (P i).v).p ho ki on ot = 0 → (upd (G 22) i (nI (P i).c + 1) i - 1 = if cFit (P i).c (V (P i).v).p ho ki on ot = 0 then -1 else nI (P i).c) ∧ RPP np (if cFit (P i).c (V (P i).v).p ho ki on ot = 0 then P else pset P i (pOf (P i) ho ki on ot)) (gset G (upd (G 22) i (nI (P i).c + 1)) (upd (G 23) (40 * i + (P i).c) ho) (upd (G 24) (40 * i + (P i).c) ki) (upd (G 25) (40 * i + (P i).c) on) (upd (G 26) (40 * i + (P i).c) ot)) := fun h => by
              rw [if_neg h, if_neg h, upd_eq, show nI (P i).c + 1 = nI ((P i).c + 1) from nI_1 _]
              exact ⟨nI_dec1, call_rows hZ hG hi (by omega)⟩
            by_cases h4 : F_X10_hasPerson (nI (V (P i).v).p) on = 0
            · rw [if_pos h4]
              refine no (fit.trans ?_)
              by_cases h5 : ki = 3
              · rw [if_pos h5]; exact h4
              · rw [if_neg h5]; unfold F_X10_hasCouple; rw [if_pos h4]
            · rw [if_neg h4]
              by_cases h5 : ki = 3
              · rw [if_pos h5]
                exact yes (by rw [fit, if_pos h5]; exact h4)
              · rw [if_neg h5]
                by_cases h6 : F_X10_hasPerson (nI (V (P i).v).p) ot = 0
                · rw [if_pos h6]
                  exact no (by rw [fit, if_neg h5]; unfold F_X10_hasCouple; rw [if_neg h4, if_pos h6])
                · rw [if_neg h6]
                  by_cases h7 : on = ot
                  · rw [if_pos h7]
                    exact no (by rw [fit, if_neg h5]; unfold F_X10_hasCouple; rw [if_neg h4, if_neg h6, if_pos h7])
                  · rw [if_neg h7]
                    exact yes (by rw [fit, if_neg h5]; unfold F_X10_hasCouple; rw [if_neg h4, if_neg h6, if_neg h7]; decide)
theorem plan_rows {np i : Nat} {P : Nat → PP} {G : Nat → Nat → Int32} (hG : RPP np P G) : RPP (np + 1) (pset P np (pZero i)) (fset (fset G 21 (upd (G 21) np (nI i))) 22 (upd (G 22) np 0)) := fun j hj => by
  show upd (G 21) np (nI i) j = _ ∧ upd (G 22) np 0 j = _ ∧ ∀ k : Nat, k < _ → G 23 (40 * j + k) = _ ∧ G 24 (40 * j + k) = _ ∧ G 25 (40 * j + k) = _ ∧ G 26 (40 * j + k) = _
  by_cases e : j = np
  · subst e
    rw [pset_eq, upd_eq, upd_eq]
    exact ⟨rfl, rfl, fun k hk => absurd hk (Nat.not_lt_zero _)⟩
  · rw [pset_ne e, upd_ne e, upd_ne e]
    exact hG j (by omega)
section
variable {l : Launch} {g : GG} {Γ : Nat → Nat} {m0 n nv np : Nat} {fb : Nat → Int32} {V : Nat → VV} {P : Nat → PP}
set_option maxHeartbeats 8000000 in
theorem E12_callP (hU : UQ TS0 Γ) (hnv : nv ≤ 10) (hnp : np ≤ 12) (hZ : PLW nv V np P) (tm : Γ m0 = 60) (p0 p1 p2 p3 p4 : Int32) : EX l g yX12_call cX12_call 7 (some .int) pX12_call_0 Γ [.ref m0, .int p0, .int p1, .int p2, .int p3, .int p4] (fun H => RR1 g m0 n fb nv np H ∧ RRV g m0 nv V H ∧ RRP g m0 np P H) (fun _ v H1 => v = .int (cAns np V P p0 p1 p2 p3 p4) ∧ RRP g m0 np (cNew np V P p0 p1 p2 p3 p4) H1) :=
  EX_of (SX12_call_0 l g) hU ⟨av_ref tm (by decide), avi_top _, avi_top _, avi_top _, avi_top _, avi_top _, trivial⟩ rfl fun H hT hR => by
    obtain ⟨hR, ⟨B6, F, hB6, hV⟩, B, G, hB, hG⟩ := hR
    obtain ⟨tr, er, h1, h2, h3, h4, h5⟩ := hR.tags hT tm
    obtain ⟨ws, A0, hv⟩ := h_obj hT (by rw [tm]; decide) ((congrArg TS0.1 tm).trans rfl)
    have hlen := KV_len (KV_of hv)
    have F2 := at_fe (k := 2) A0 rfl (by rw [hlen]; decide) h2
    have F18 := at_fe (k := 18) A0 rfl (by rw [hlen]; decide) h3
    have F27 := at_fe (k := 27) A0 rfl (by rw [hlen]; decide) h4
    have G21 := at_fe (k := 21) A0 rfl (by rw [hlen]; decide) (hB 21 (by decide)).1
    have G22 := at_fe (k := 22) A0 rfl (by rw [hlen]; decide) (hB 22 (by decide)).1
    have G23 := at_fe (k := 23) A0 rfl (by rw [hlen]; decide) (hB 23 (by decide)).1
    have G24 := at_fe (k := 24) A0 rfl (by rw [hlen]; decide) (hB 24 (by decide)).1
    have G25 := at_fe (k := 25) A0 rfl (by rw [hlen]; decide) (hB 25 (by decide)).1
    have G26 := at_fe (k := 26) A0 rfl (by rw [hlen]; decide) (hB 26 (by decide)).1
    have t21 := (hB.tag hT tm (k := 21) (by decide)).1
    have t22 := (hB.tag hT tm (k := 22) (by decide)).1
    have t23 := (hB.tag hT tm (k := 23) (by decide)).1
    have t24 := (hB.tag hT tm (k := 24) (by decide)).1
    have t25 := (hB.tag hT tm (k := 25) (by decide)).1
    have t26 := (hB.tag hT tm (k := 26) (by decide)).1
    have H6 := at_fe (k := 6) A0 rfl (by rw [hlen]; decide) (hB6 6 (by decide)).1
    have t6 := (hB6.tag hT tm (k := 6) (by decide)).1
    have tg : [Γ m0, Γ (B6 6), Γ (B 21), Γ (B 22), Γ (B 23), Γ (B 24), Γ (B 25), Γ (B 26)] = [60, 62, 70, 71, 72, 73, 74, 75] := by rw [tm, t6, t21, t22, t23, t24, t25, t26]; rfl
    refine ⟨2, _, _, by decide, K_X12_call l g m0 ws np (B6 6) (F 6) (B 21) (G 21) (B 22) (G 22) (B 23) (G 23) (B 24) (G 24) (B 25) (G 25) (B 26) (G 26) p0 p1 p2 p3 p4 hlen F27 H6 G21 G22 G23 G24 G25 G26 hnp (fun j hj => by
      obtain ⟨q1, q2⟩ := hZ j hj
      rw [(hG j hj).1, tN_nI (by omega)]
      exact ⟨rfl, by omega⟩) (fun j hj => by
      obtain ⟨q1, q2⟩ := hZ j hj
      have q3 := q2.1
      rw [(hG j hj).2.1, tN_nI (by omega)]
      exact ⟨rfl, q3⟩), vaP_cons A0 (vaP_cons (hB6 6 (by decide)).2 (vaP_cons (hB 21 (by decide)).2 (vaP_cons (hB 22 (by decide)).2 (vaP_cons (hB 23 (by decide)).2 (vaP_cons (hB 24 (by decide)).2 (vaP_cons (hB 25 (by decide)).2 (vaP_cons (hB 26 (by decide)).2 vaP_nil))))))), D_tags (tl := [60, 62, 70, 71, 72, 73, 74, 75]) tg (by decide) (by decide), fun x u H1 hp hP hz hk hT1 hun => ?_⟩
    obtain ⟨rfl, rfl⟩ := hp
    obtain ⟨e1, e2⟩ := call_agree (x := p0) (ho := p1) (ki := p2) (on := p3) (ot := p4) hnv hnp hV hZ hG
    refine ⟨congrArg Value.int e1, RRP.upd (ks := [22, 23, 24, 25, 26]) hB hT tm hun rfl rfl (fun k hk => ?_) (fun k hk => ?_) e2⟩
    · by_cases e22 : k = 22
      · subst e22; exact absurd hk (by decide)
      by_cases e23 : k = 23
      · subst e23; exact absurd hk (by decide)
      by_cases e24 : k = 24
      · subst e24; exact absurd hk (by decide)
      by_cases e25 : k = 25
      · subst e25; exact absurd hk (by decide)
      by_cases e26 : k = 26
      · subst e26; exact absurd hk (by decide)
      unfold gset
      rw [if_neg e22, if_neg e23, if_neg e24, if_neg e25, if_neg e26]
    · simp only [List.mem_cons, List.not_mem_nil, or_false] at hk
      rcases hk with rfl | rfl | rfl | rfl | rfl
      · exact hP 3 _ rfl
      · exact hP 4 _ rfl
      · exact hP 5 _ rfl
      · exact hP 6 _ rfl
      · exact hP 7 _ rfl
set_option maxHeartbeats 8000000 in
theorem E12_planP (hU : UQ TS0 Γ) (hnv : nv ≤ 10) (hnp : np ≤ 12) (tm : Γ m0 = 60) (p0 : Int32) : EX l g yX12_plan cX12_plan 2 (some .int) pX12_plan_0 Γ [.ref m0, .int p0] (fun H => RR1 g m0 n fb nv np H ∧ RRP g m0 np P H) (fun _ _ H1 => RRP g m0 (pNum nv np p0) (pNew nv np P p0) H1) :=
  EX_of (SX12_plan_0 l g) hU ⟨av_ref tm (by decide), avi_top _, trivial⟩ rfl fun H hT hR => by
    obtain ⟨hR, B, G, hB, hG⟩ := hR
    obtain ⟨tr, er, h1, h2, h3, h4, h5⟩ := hR.tags hT tm
    obtain ⟨ws, A0, hv⟩ := h_obj hT (by rw [tm]; decide) ((congrArg TS0.1 tm).trans rfl)
    have hlen := KV_len (KV_of hv)
    have F2 := at_fe (k := 2) A0 rfl (by rw [hlen]; decide) h2
    have F18 := at_fe (k := 18) A0 rfl (by rw [hlen]; decide) h3
    have F27 := at_fe (k := 27) A0 rfl (by rw [hlen]; decide) h4
    have G21 := at_fe (k := 21) A0 rfl (by rw [hlen]; decide) (hB 21 (by decide)).1
    have G22 := at_fe (k := 22) A0 rfl (by rw [hlen]; decide) (hB 22 (by decide)).1
    have t21 := (hB.tag hT tm (k := 21) (by decide)).1
    have t22 := (hB.tag hT tm (k := 22) (by decide)).1
    have tg : [Γ m0, Γ (B 21), Γ (B 22)] = [60, 70, 71] := by rw [tm, t21, t22]; rfl
    by_cases hp : plN nv np p0
    · obtain ⟨⟨i, hi, rfl⟩, h12⟩ := hp
      have hyes : ¬ F_X12_isValley nv (nI i) = 0 ∧ np < 12 := ⟨rv_yes hnv hi, h12⟩
      rw [show pNum nv np (nI i) = np + 1 from if_pos hyes, show pNew nv np P (nI i) = pset P np (pZero (tN (nI i))) from if_pos hyes, tN_nI (by omega)]
      refine ⟨1, _, _, by decide, K_X12_plan1 l g m0 ws nv np (B 21) (G 21) (B 22) (G 22) i hlen F18 F27 G21 G22 hnv h12 hi, vaP_cons A0 (vaP_cons (hB 21 (by decide)).2 (vaP_cons (hB 22 (by decide)).2 vaP_nil)), D_tags (tl := [60, 70, 71]) tg (by decide) (by decide), fun x u H1 hp hP hz hk hT1 hun => ?_⟩
      obtain ⟨hx, rfl⟩ := hp
      refine RRP.upd (ks := [21, 22]) hB hT tm hun rfl rfl (fun k hk => ?_) (fun k hk => ?_) (plan_rows (i := i) hG)
      · by_cases e21 : k = 21
        · subst e21; exact absurd hk (by decide)
        by_cases e22 : k = 22
        · subst e22; exact absurd hk (by decide)
        unfold fset
        rw [if_neg e22, if_neg e21]
      · simp only [List.mem_cons, List.not_mem_nil, or_false] at hk
        rcases hk with rfl | rfl
        · exact hP 1 _ rfl
        · exact hP 2 _ rfl
    · have hno : ¬ (¬ F_X12_isValley nv p0 = 0 ∧ np < 12) := fun q => hp (by
        obtain ⟨a, b⟩ := rv_at (n := nv) (by omega) q.1
        exact ⟨⟨tN p0, b, a⟩, q.2⟩)
      rw [show pNum nv np p0 = np from if_neg hno, show pNew nv np P p0 = P from if_neg hno]
      have hb : np = 12 ∨ F_X12_isValley nv p0 = 0 := by
        by_cases h : np = 12
        · exact Or.inl h
        · exact Or.inr (Decidable.byContradiction fun q => hno ⟨q, by omega⟩)
      refine ⟨1, _, _, by decide, K_X12_plan0 l g m0 ws nv np p0 hlen F18 F27 hnv hnp hb, vaP_cons A0 vaP_nil, D_tags (tl := [60]) (by show [Γ m0] = _; rw [tm]) (by decide) (by decide), fun x u H1 hpp hP hz hk hT1 hun => ?_⟩
      exact RRP.upd (ks := [21, 22]) hB hT tm hun rfl rfl (fun k hk => rfl) (fun k hk => by
        simp only [List.mem_cons, List.not_mem_nil, or_false] at hk
        rcases hk with rfl | rfl
        · exact (hB 21 (by decide)).2.kept (hk _ (hT.lt (by rw [t21]; decide)) (nin_tag (tl := [60]) (by show [Γ m0] = _; rw [tm]) t21 rfl (hT.lt (by rw [t21]; decide))))
        · exact (hB 22 (by decide)).2.kept (hk _ (hT.lt (by rw [t22]; decide)) (nin_tag (tl := [60]) (by show [Γ m0] = _; rw [tm]) t22 rfl (hT.lt (by rw [t22]; decide))))) hG
end

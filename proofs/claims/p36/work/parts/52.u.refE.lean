theorem fset_id {F : Nat → Nat → Int32} {k : Nat} : fset F k (F k) = F := funext fun j => by
  unfold fset; split
  · rename_i e; rw [e]
  · rfl
theorem vset_id {V : Nat → VV} {i : Nat} : vset V i (V i) = V := funext fun j => by
  unfold vset; split
  · rename_i e; rw [e]
  · rfl
theorem rv_yes {nv i : Nat} (hn : nv ≤ 10) (hi : i < nv) : ¬ F_X12_isValley nv (nI i) = 0 := by rw [rv_ok (by omega) hi]; decide
theorem news_eq {x : Int32} : F_X12_isIn x 0 3 = F_X11_isNews x := by
  unfold F_X12_isIn F_X11_isNews
  have e : (3 : Int32) < x ↔ 4 ≤ x := by
    rw [Int32.lt_iff_toInt_lt, Int32.le_iff_toInt_le, show (3 : Int32).toInt = 3 by decide, show (4 : Int32).toInt = 4 by decide]
    omega
  by_cases h0 : x < 0
  · rw [if_pos h0, if_pos h0]
  · rw [if_neg h0, if_neg h0]
    by_cases h1 : 4 ≤ x
    · rw [if_pos (e.mpr h1), if_pos h1]
    · rw [if_neg (fun h => h1 (e.mp h)), if_neg h1]
/-- a tale's hour: none, or one from 0 on -/
theorem tale_hour {t : Int32} : F_X12_isIn t (-1) 24 = 0 ↔ ¬ t = -1 ∧ F_X11_isHourOrFirst t = 0 := by
  unfold F_X12_isIn F_X11_isHourOrFirst
  have e : t = -1 ↔ t.toInt = -1 := ⟨fun h => by rw [h]; decide, fun h => Int32.toInt_inj.mp (h.trans (by decide))⟩
  have a : t < -1 ↔ t.toInt < -1 := by rw [Int32.lt_iff_toInt_lt, show (-1 : Int32).toInt = -1 by decide]
  have b : (24 : Int32) < t ↔ 24 < t.toInt := by rw [Int32.lt_iff_toInt_lt, show (24 : Int32).toInt = 24 by decide]
  have c : t < 0 ↔ t.toInt < 0 := by rw [Int32.lt_iff_toInt_lt, show (0 : Int32).toInt = 0 by decide]
  by_cases h1 : t < -1
  · have h1' := a.mp h1
    rw [if_pos h1, if_pos (show t < 0 from c.mpr (by omega))]
    exact ⟨fun _ => ⟨fun q => by have := e.mp q; omega, rfl⟩, fun _ => rfl⟩
  · have h1' : ¬ t.toInt < -1 := fun q => h1 (a.mpr q)
    rw [if_neg h1]
    by_cases h2 : (24 : Int32) < t
    · have h2' := b.mp h2
      rw [if_pos h2, if_neg (show ¬ t < 0 from fun q => by have := c.mp q; omega)]
      exact ⟨fun _ => ⟨fun q => by have := e.mp q; omega, rfl⟩, fun _ => rfl⟩
    · rw [if_neg h2]
      by_cases h3 : t < 0
      · have h3' := c.mp h3
        rw [if_pos h3]
        exact ⟨fun h => absurd h (by decide), fun h => absurd (e.mpr (by omega)) h.1⟩
      · rw [if_neg h3]
        exact ⟨fun h => absurd h (by decide), fun h => absurd h.2 (by decide)⟩
theorem tale_agree {nv : Nat} {V : Nat → VV} {F : Nat → Nat → Int32} {x y z t : Int32} (hnv : nv ≤ 10) (h : RPW nv V F) : (F_X12_tale nv (F 6) (F 61) x y z t).1 = vAns nv V x 0 (fun w => (F_X11_tale1 w.p w.ta y z t).1) ∧ RPW nv (vNew nv V x (fun w : VV => (w.sta ((F_X11_tale1 w.p w.ta y z t).2)))) (fset F 61 (F_X12_tale nv (F 6) (F 61) x y z t).2) := by
  rcases vin_cases (n := nv) (by omega) x with hb | ⟨i, hi, rfl⟩
  · rw [vAns_no hb, vNew_no hb]
    unfold F_X12_tale
    rw [rv_no hb, if_pos rfl]
    exact ⟨rfl, by rw [show fset F 61 ((0 : Int32), F 61).2 = F from fset_id]; exact h⟩
  · rw [vAns_ok hnv hi, vNew_ok hnv hi]
    obtain ⟨ok, r6, r7, r8, r9, r12, r53, r61⟩ := h i hi
    have ok0 := ok
    obtain ⟨ok1, ok2, ok3, ok4⟩ := ok
    have keep : RPW nv (vset V i ((V i).sta ((V i).ta))) (fset F 61 (F 61)) := by
      rw [fset_id, show (((V i).sta ((V i).ta)) : VV) = V i from rfl, vset_id]; exact h
    unfold F_X12_tale F_X11_tale1 F_X10_setTale F_X12_isPerson
    rw [if_neg (rv_yes hnv hi), tN_nI (by omega), r6, per_eq (by omega), show F_X12_isNews y = F_X11_isNews y from news_eq]
    by_cases h0 : F_X11_isNews y = 0
    · rw [if_pos h0, if_pos h0]; exact ⟨rfl, keep⟩
    · rw [if_neg h0, if_neg h0]
      have hy := hn_at h0
      have hy2 := hy.2
      by_cases h1 : F_X10_hasPerson (nI (V i).p) z = 0
      · rw [if_pos h1, if_pos h1]; exact ⟨rfl, keep⟩
      · rw [if_neg h1, if_neg h1]
        have hz := (hp_at (n := (V i).p) (by omega) h1).2
        have chg : RPW nv (vset V i ((V i).sta (upd (V i).ta (tN y * 7 + tN z) t))) (fset F 61 (upd (F 61) (7 * (4 * i + tN y) + tN z) t)) := by
          refine h.set hi ok0 ⟨r6, r7, r8, r9, r12, r53, fun j o hj ho => ?_⟩ fun j hj hji => ?_
          · show upd (F 61) (7 * (4 * i + tN y) + tN z) t (7 * (4 * i + j) + o) = upd (V i).ta (tN y * 7 + tN z) t (j * 7 + o)
            by_cases e : j * 7 + o = tN y * 7 + tN z
            · rw [e, show 7 * (4 * i + j) + o = 7 * (4 * i + tN y) + tN z by omega, upd_eq, upd_eq]
            · rw [upd_ne e, upd_ne (by omega)]
              exact r61 j o hj ho
          · obtain ⟨okj, b6, b7, b8, b9, b12, b53, b61⟩ := h j hj
            refine ⟨b6, b7, b8, b9, b12, b53, fun k o hk ho => ?_⟩
            show upd (F 61) (7 * (4 * i + tN y) + tN z) t (7 * (4 * j + k) + o) = _
            rw [upd_ne (by omega)]
            exact b61 k o hk ho
        by_cases h2 : F_X12_isIn t (-1) 24 = 0
        · have h3 := tale_hour.mp h2
          rw [if_pos h2, if_neg h3.1, if_pos h3.2]; exact ⟨rfl, keep⟩
        · rw [if_neg h2]
          by_cases h3 : t = -1
          · rw [if_pos h3]; exact ⟨rfl, chg⟩
          · rw [if_neg h3, if_neg (fun q => h2 (tale_hour.mpr ⟨h3, q⟩))]; exact ⟨rfl, chg⟩
theorem card_agree {nv : Nat} {V : Nat → VV} {F : Nat → Nat → Int32} {x y z : Int32} (hnv : nv ≤ 10) (h : RPW nv V F) : (F_X12_card nv (F 6) (F 52) (F 53) x y z).1 = vAns nv V x (-1) (fun w => (F_X11_card1 w.p w.cd w.cl y z).1) ∧ RPW nv (vNew nv V x (fun w : VV => (w.scc ((F_X11_card1 w.p w.cd w.cl y z).2.1) ((F_X11_card1 w.p w.cd w.cl y z).2.2)))) (fset (fset F 52 (F_X12_card nv (F 6) (F 52) (F 53) x y z).2.1) 53 (F_X12_card nv (F 6) (F 52) (F 53) x y z).2.2) := by
  have id2 : fset (fset F 52 (F 52)) 53 (F 53) = F := by rw [fset_id, fset_id]
  rcases vin_cases (n := nv) (by omega) x with hb | ⟨i, hi, rfl⟩
  · rw [vAns_no hb, vNew_no hb]
    unfold F_X12_card
    rw [rv_no hb, if_pos rfl]
    exact ⟨rfl, by rw [show fset (fset F 52 ((-1 : Int32), F 52, F 53).2.1) 53 ((-1 : Int32), F 52, F 53).2.2 = F from id2]; exact h⟩
  · rw [vAns_ok hnv hi, vNew_ok hnv hi]
    obtain ⟨ok, r6, r7, r8, r9, r12, r53, r61⟩ := h i hi
    have ok0 := ok
    obtain ⟨ok1, ok2, ok3, ok4⟩ := ok
    have keep : RPW nv (vset V i ((V i).scc ((V i).cd) ((V i).cl))) (fset (fset F 52 (F 52)) 53 (F 53)) := by
      rw [id2, show (((V i).scc ((V i).cd) ((V i).cl)) : VV) = V i from rfl, vset_id]; exact h
    unfold F_X12_card F_X11_card1 F_X10_hasCouple F_X12_isPerson
    rw [if_neg (rv_yes hnv hi), tN_nI (by omega), r6, per_eq (by omega), per_eq (by omega)]
    by_cases h1 : F_X10_hasPerson (nI (V i).p) y = 0
    · rw [if_pos h1, if_pos h1, if_pos rfl]; exact ⟨rfl, keep⟩
    · rw [if_neg h1, if_neg h1]
      have hy := (hp_at (n := (V i).p) (by omega) h1).2
      by_cases h2 : F_X10_hasPerson (nI (V i).p) z = 0
      · rw [if_pos h2, if_pos h2, if_pos rfl]; exact ⟨rfl, keep⟩
      · rw [if_neg h2, if_neg h2]
        by_cases h3 : y = z
        · rw [if_pos h3, if_pos h3, if_pos rfl]; exact ⟨rfl, keep⟩
        · rw [if_neg h3, if_neg h3, if_neg (show ¬ ((1 : Int32) = 0) by decide)]
          have ho7 : tN y < 7 := by omega
          obtain ⟨c1, c2⟩ := ok4 (tN y) ho7
          have ec : F 53 (7 * i + tN y) = (V i).cl (tN y) := (r53 (tN y) ho7).1
          unfold F_X10_appendToCard
          rw [ec]
          by_cases h6 : tN ((V i).cl (tN y)) = 6
          · rw [if_pos (show nI (tN ((V i).cl (tN y))) = 6 from congrArg nI h6), if_neg (show ¬ nI (tN ((V i).cl (tN y))) < 6 by rw [h6]; decide)]; exact ⟨rfl, keep⟩
          · rw [if_neg (show ¬ nI (tN ((V i).cl (tN y))) = 6 from fun q => h6 ((nI_eq (a := tN ((V i).cl (tN y))) (b := 6) (by omega) (by omega)).mp q)), if_pos (show nI (tN ((V i).cl (tN y))) < 6 from (nI_ltI (a := tN ((V i).cl (tN y))) (b := 6) (by omega) (by omega)).mpr (by omega))]
            have e1 : (V i).cl (tN y) + 1 = nI (tN ((V i).cl (tN y)) + 1) := by rw [c1, tN_nI (by omega)]; exact nI_1 _
            rw [e1]
            refine ⟨by show upd _ _ _ _ = _; rw [upd_eq], h.set hi ⟨ok1, ok2, ok3, ?_⟩ ⟨r6, r7, r8, r9, r12, fun o ho => ?_, r61⟩ fun j hj hji => ?_⟩
            · intro j hj
              show upd (V i).cl (tN y) (nI (tN ((V i).cl (tN y)) + 1)) j = nI (tN (upd (V i).cl (tN y) (nI (tN ((V i).cl (tN y)) + 1)) j)) ∧ tN (upd (V i).cl (tN y) (nI (tN ((V i).cl (tN y)) + 1)) j) ≤ 6
              by_cases e : j = tN y
              · subst e
                rw [upd_eq, tN_nI (by omega)]
                exact ⟨rfl, by omega⟩
              · rw [upd_ne e]; exact ok4 j hj
            · show upd (F 53) (7 * i + tN y) (nI (tN ((V i).cl (tN y)) + 1)) (7 * i + o) = upd (V i).cl (tN y) (nI (tN ((V i).cl (tN y)) + 1)) o ∧ ∀ t : Nat, t < tN (upd (V i).cl (tN y) (nI (tN ((V i).cl (tN y)) + 1)) o) → upd (F 52) (6 * (7 * i + tN y) + tN ((V i).cl (tN y))) z (6 * (7 * i + o) + t) = upd (V i).cd (tN y * 6 + tN ((V i).cl (tN y))) z (o * 6 + t)
              obtain ⟨q1, q2⟩ := r53 o ho
              by_cases e : o = tN y
              · subst e
                rw [upd_eq, upd_eq, tN_nI (by omega)]
                refine ⟨rfl, fun t ht => ?_⟩
                by_cases et : t = tN ((V i).cl (tN y))
                · rw [et, upd_eq, upd_eq]
                · rw [upd_ne (by omega), upd_ne (by omega)]
                  exact q2 t (by omega)
              · have o4 := (ok4 o ho).2
                rw [upd_ne e, upd_ne (by omega)]
                refine ⟨q1, fun t ht => ?_⟩
                rw [upd_ne (by omega), upd_ne (by omega)]
                exact q2 t ht
            · obtain ⟨okj, b6, b7, b8, b9, b12, b53, b61⟩ := h j hj
              refine ⟨b6, b7, b8, b9, b12, fun o ho => ?_, b61⟩
              have o4 := (okj.2.2.2 o ho).2
              obtain ⟨q1, q2⟩ := b53 o ho
              show upd (F 53) (7 * i + tN y) (nI (tN ((V i).cl (tN y)) + 1)) (7 * j + o) = _ ∧ ∀ t : Nat, t < _ → upd (F 52) (6 * (7 * i + tN y) + tN ((V i).cl (tN y))) z (6 * (7 * j + o) + t) = _
              rw [upd_ne (by omega)]
              refine ⟨q1, fun t ht => ?_⟩
              rw [upd_ne (by omega)]
              exact q2 t ht
theorem L1_blank {x : Int32} {g : Nat → Int32} {j : Nat} : ∀ k : Nat, L1_X12_blank x g k j = if 7 * tN x ≤ j ∧ j < 7 * tN x + k then 0 else g j
  | 0 => by rw [if_neg (by omega)]; rfl
  | k + 1 => by
    show upd (L1_X12_blank x g k) (7 * tN x + k) 0 j = _
    by_cases e : j = 7 * tN x + k
    · rw [e, upd_eq, if_pos (by omega)]
    · rw [upd_ne e, L1_blank k]
      by_cases h : 7 * tN x ≤ j ∧ j < 7 * tN x + k
      · rw [if_pos h, if_pos (by omega)]
      · rw [if_neg h, if_neg (by omega)]
theorem blank_agree {nv : Nat} {V : Nat → VV} {F : Nat → Nat → Int32} {x : Int32} (hnv : nv ≤ 10) (h : RPW nv V F) : (F_X12_blank nv (F 53) x).1 = vAns nv V x 0 (fun _ => 1) ∧ RPW nv (vNew nv V x (fun w : VV => (w.scl (fun _ => 0)))) (fset F 53 (F_X12_blank nv (F 53) x).2) := by
  rcases vin_cases (n := nv) (by omega) x with hb | ⟨i, hi, rfl⟩
  · rw [vAns_no hb, vNew_no hb]
    unfold F_X12_blank
    rw [rv_no hb, if_pos rfl]
    exact ⟨rfl, by rw [show fset F 53 ((0 : Int32), F 53).2 = F from fset_id]; exact h⟩
  · rw [vAns_ok hnv hi, vNew_ok hnv hi]
    obtain ⟨ok, r6, r7, r8, r9, r12, r53, r61⟩ := h i hi
    obtain ⟨ok1, ok2, ok3, ok4⟩ := ok
    unfold F_X12_blank
    rw [if_neg (rv_yes hnv hi)]
    refine ⟨rfl, h.set hi ⟨ok1, ok2, ok3, fun _ _ => ⟨rfl, Nat.zero_le _⟩⟩ ⟨r6, r7, r8, r9, r12, fun o ho => ?_, r61⟩ fun j hj hji => ?_⟩
    · show L1_X12_blank (nI i) (F 53) 7 (7 * i + o) = 0 ∧ ∀ t : Nat, t < 0 → _
      rw [L1_blank, tN_nI (by omega), if_pos (by omega)]
      exact ⟨rfl, fun t ht => absurd ht (Nat.not_lt_zero _)⟩
    · obtain ⟨okj, b6, b7, b8, b9, b12, b53, b61⟩ := h j hj
      refine ⟨b6, b7, b8, b9, b12, fun o ho => ?_, b61⟩
      show L1_X12_blank (nI i) (F 53) 7 (7 * j + o) = _ ∧ _
      rw [L1_blank, tN_nI (by omega), if_neg (by omega)]
      exact b53 o ho
theorem RPW.lc {nv : Nat} {V : Nat → VV} {F : Nat → Nat → Int32} (h : RPW nv V F) : ∀ j : Nat, j < nv → F 7 j = nI (tN (F 7 j)) ∧ tN (F 7 j) ≤ 12 := fun j hj => by
  obtain ⟨ok, r6, r7, -⟩ := h j hj
  rw [r7, tN_nI (by have := ok.2.1; omega)]
  exact ⟨rfl, ok.2.1⟩
theorem RPW.pe {nv : Nat} {V : Nat → VV} {F : Nat → Nat → Int32} (h : RPW nv V F) : ∀ j : Nat, j < nv → F 6 j = nI (tN (F 6 j)) ∧ tN (F 6 j) ≤ 7 := fun j hj => by
  obtain ⟨ok, r6, -⟩ := h j hj
  rw [r6, tN_nI (by have := ok.1; omega)]
  exact ⟨rfl, ok.1⟩
theorem cl77 {g : GG} {Γ : Nat → Nat} {H : Heap} {m0 : Nat} {B : Nat → Nat} {F : Nat → Nat → Int32} (hT : HT g TS0 Γ H) (tm : Γ m0 = 60) (h : RRVB g m0 B F H) : ∀ j : Nat, j < 77 → F 53 j = nI (tN (F 53 j)) ∧ tN (F 53 j) ≤ 6 := fun j hj => by
  obtain ⟨e, -⟩ := h.tag hT tm (k := 53) (by decide)
  obtain ⟨f, h1, h2⟩ := h_ints (g := g) (k := 1) (n := 77) (a := vi 0 6) (by decide) hT (by rw [e]; decide) ((congrArg TS0.1 e).trans rfl)
  have h3 := (AT_fun (show AT g 1 77 (B 53) (F 53) H from (h 53 (by decide)).2) h1 hj).2
  obtain ⟨k, h4, -, h5⟩ := avi_nn (h2 j hj)
  rw [h3]
  obtain ⟨q1, q2⟩ := tN_of (k := k) (by omega) h4
  exact ⟨q1, by rw [q2]; exact h5⟩
set_option maxHeartbeats 4000000 in
theorem E12_downV {l : Launch} {g : GG} {Γ : Nat → Nat} {m0 n nv np : Nat} {fb : Nat → Int32} {V : Nat → VV} (hU : UQ TS0 Γ) (hnv : nv ≤ 10) (tm : Γ m0 = 60) (p0 : Int32) (p1 : Int32) (p2 : Int32) : EX l g yX12_down cX12_down 4 (some .boolean) pX12_down_0 Γ [.ref m0, .int p0, .int p1, .int p2] (fun H => RR1 g m0 n fb nv np H ∧ RRV g m0 nv V H) (fun _ v H1 => v = .int (vAns nv V p0 0 (fun w => (F_X11_down1 w.lc w.L (kx w) p1 p2).1)) ∧ RRV g m0 nv (vNew nv V p0 (fun w : VV => (w.sL ((F_X11_down1 w.lc w.L (kx w) p1 p2).2.1)))) H1) :=
  EX_of (SX12_down_0 l g) hU ⟨av_ref tm (by decide), avi_top _, avi_top _, avi_top _, trivial⟩ rfl fun H hT hR => by
    obtain ⟨hR, B, F, hB, hP0⟩ := hR
    obtain ⟨tr, er, h1, h2, h3, h4, h5⟩ := hR.tags hT tm
    obtain ⟨ws, A0, hv⟩ := h_obj hT (by rw [tm]; decide) ((congrArg TS0.1 tm).trans rfl)
    have hk := KV_of hv
    have hlen := KV_len hk
    have F1 := at_fe (k := 1) A0 rfl (by rw [hlen]; decide) h1
    have F2 := at_fe (k := 2) A0 rfl (by rw [hlen]; decide) h2
    have F18 := at_fe (k := 18) A0 rfl (by rw [hlen]; decide) h3
    have F27 := at_fe (k := 27) A0 rfl (by rw [hlen]; decide) h4
    have G7 := at_fe (k := 7) A0 rfl (by rw [hlen]; decide) (hB 7 (by decide)).1
    have G16 := at_fe (k := 16) A0 rfl (by rw [hlen]; decide) (hB 16 (by decide)).1
    refine ⟨2, _, _, by decide, K_X12_down l g m0 ws nv (B 7) (F 7) (B 16) (F 16) p0 p1 p2 hlen F18 G7 G16 hnv hP0.lc, vaP_cons A0 (vaP_cons (hB 7 (by decide)).2 (vaP_cons (hB 16 (by decide)).2 vaP_nil)), D_tags (tl := [60, 63, 68]) (by show [Γ m0, Γ (B 7), Γ (B 16)] = _; rw [tm, (hB.tag hT tm (k := 7) (by decide)).1, (hB.tag hT tm (k := 16) (by decide)).1]; rfl) (by decide) (by decide), fun x u H1 hp hP hz hk hT1 hun => ?_⟩
    obtain ⟨rfl, rfl⟩ := hp
    obtain ⟨e1, e2⟩ := down_agree (x := p0) (y := p1) (z := p2) hnv hP0
    exact ⟨congrArg Value.int e1, RRV.upd (ks := [16]) (F' := (fset F 16 (F_X12_down nv (F 7) (F 16) p0 p1 p2).2)) hB hT tm hun rfl rfl (fun k hk => by
      by_cases e16 : k = 16
      · subst e16; exact absurd hk (by decide)
      unfold fset
      rw [if_neg e16]) (fun k hk => by
      simp only [List.mem_cons, List.not_mem_nil, or_false] at hk
      subst hk
      exact hP 2 _ rfl) e2⟩
set_option maxHeartbeats 4000000 in
theorem E12_cardV {l : Launch} {g : GG} {Γ : Nat → Nat} {m0 n nv np : Nat} {fb : Nat → Int32} {V : Nat → VV} (hU : UQ TS0 Γ) (hnv : nv ≤ 10) (tm : Γ m0 = 60) (p0 : Int32) (p1 : Int32) (p2 : Int32) : EX l g yX12_card cX12_card 5 (some .int) pX12_card_0 Γ [.ref m0, .int p0, .int p1, .int p2] (fun H => RR1 g m0 n fb nv np H ∧ RRV g m0 nv V H) (fun _ v H1 => v = .int (vAns nv V p0 (-1) (fun w => (F_X11_card1 w.p w.cd w.cl p1 p2).1)) ∧ RRV g m0 nv (vNew nv V p0 (fun w : VV => (w.scc ((F_X11_card1 w.p w.cd w.cl p1 p2).2.1) ((F_X11_card1 w.p w.cd w.cl p1 p2).2.2)))) H1) :=
  EX_of (SX12_card_0 l g) hU ⟨av_ref tm (by decide), avi_top _, avi_top _, avi_top _, trivial⟩ rfl fun H hT hR => by
    obtain ⟨hR, B, F, hB, hP0⟩ := hR
    obtain ⟨tr, er, h1, h2, h3, h4, h5⟩ := hR.tags hT tm
    obtain ⟨ws, A0, hv⟩ := h_obj hT (by rw [tm]; decide) ((congrArg TS0.1 tm).trans rfl)
    have hk := KV_of hv
    have hlen := KV_len hk
    have F1 := at_fe (k := 1) A0 rfl (by rw [hlen]; decide) h1
    have F2 := at_fe (k := 2) A0 rfl (by rw [hlen]; decide) h2
    have F18 := at_fe (k := 18) A0 rfl (by rw [hlen]; decide) h3
    have F27 := at_fe (k := 27) A0 rfl (by rw [hlen]; decide) h4
    have G6 := at_fe (k := 6) A0 rfl (by rw [hlen]; decide) (hB 6 (by decide)).1
    have G52 := at_fe (k := 52) A0 rfl (by rw [hlen]; decide) (hB 52 (by decide)).1
    have G53 := at_fe (k := 53) A0 rfl (by rw [hlen]; decide) (hB 53 (by decide)).1
    refine ⟨2, _, _, by decide, K_X12_card l g m0 ws nv (B 6) (F 6) (B 52) (F 52) (B 53) (F 53) p0 p1 p2 hlen F18 G6 G52 G53 hnv hP0.pe (cl77 hT tm hB), vaP_cons A0 (vaP_cons (hB 6 (by decide)).2 (vaP_cons (hB 52 (by decide)).2 (vaP_cons (hB 53 (by decide)).2 vaP_nil))), D_tags (tl := [60, 62, 88, 89]) (by show [Γ m0, Γ (B 6), Γ (B 52), Γ (B 53)] = _; rw [tm, (hB.tag hT tm (k := 6) (by decide)).1, (hB.tag hT tm (k := 52) (by decide)).1, (hB.tag hT tm (k := 53) (by decide)).1]; rfl) (by decide) (by decide), fun x u H1 hp hP hz hk hT1 hun => ?_⟩
    obtain ⟨rfl, rfl⟩ := hp
    obtain ⟨e1, e2⟩ := card_agree (x := p0) (y := p1) (z := p2) hnv hP0
    exact ⟨congrArg Value.int e1, RRV.upd (ks := [52, 53]) (F' := (fset (fset F 52 (F_X12_card nv (F 6) (F 52) (F 53) p0 p1 p2).2.1) 53 (F_X12_card nv (F 6) (F 52) (F 53) p0 p1 p2).2.2)) hB hT tm hun rfl rfl (fun k hk => by
      by_cases e52 : k = 52
      · subst e52; exact absurd hk (by decide)
      by_cases e53 : k = 53
      · subst e53; exact absurd hk (by decide)
      unfold fset
      rw [if_neg e53, if_neg e52]) (fun k hk => by
      simp only [List.mem_cons, List.not_mem_nil, or_false] at hk
      rcases hk with rfl | rfl
      · exact hP 2 _ rfl
      · exact hP 3 _ rfl) e2⟩
set_option maxHeartbeats 4000000 in
theorem E12_blankV {l : Launch} {g : GG} {Γ : Nat → Nat} {m0 n nv np : Nat} {fb : Nat → Int32} {V : Nat → VV} (hU : UQ TS0 Γ) (hnv : nv ≤ 10) (tm : Γ m0 = 60) (p0 : Int32) : EX l g yX12_blank cX12_blank 3 (some .boolean) pX12_blank_0 Γ [.ref m0, .int p0] (fun H => RR1 g m0 n fb nv np H ∧ RRV g m0 nv V H) (fun _ v H1 => v = .int (vAns nv V p0 0 (fun w => 1)) ∧ RRV g m0 nv (vNew nv V p0 (fun w : VV => (w.scl (fun _ => 0)))) H1) :=
  EX_of (SX12_blank_0 l g) hU ⟨av_ref tm (by decide), avi_top _, trivial⟩ rfl fun H hT hR => by
    obtain ⟨hR, B, F, hB, hP0⟩ := hR
    obtain ⟨tr, er, h1, h2, h3, h4, h5⟩ := hR.tags hT tm
    obtain ⟨ws, A0, hv⟩ := h_obj hT (by rw [tm]; decide) ((congrArg TS0.1 tm).trans rfl)
    have hk := KV_of hv
    have hlen := KV_len hk
    have F1 := at_fe (k := 1) A0 rfl (by rw [hlen]; decide) h1
    have F2 := at_fe (k := 2) A0 rfl (by rw [hlen]; decide) h2
    have F18 := at_fe (k := 18) A0 rfl (by rw [hlen]; decide) h3
    have F27 := at_fe (k := 27) A0 rfl (by rw [hlen]; decide) h4
    have G53 := at_fe (k := 53) A0 rfl (by rw [hlen]; decide) (hB 53 (by decide)).1
    refine ⟨1, _, _, by decide, K_X12_blank l g m0 ws nv (B 53) (F 53) p0 hlen F18 G53 hnv, vaP_cons A0 (vaP_cons (hB 53 (by decide)).2 vaP_nil), D_tags (tl := [60, 89]) (by show [Γ m0, Γ (B 53)] = _; rw [tm, (hB.tag hT tm (k := 53) (by decide)).1]; rfl) (by decide) (by decide), fun x u H1 hp hP hz hk hT1 hun => ?_⟩
    obtain ⟨rfl, rfl⟩ := hp
    obtain ⟨e1, e2⟩ := blank_agree (x := p0) hnv hP0
    exact ⟨congrArg Value.int e1, RRV.upd (ks := [53]) (F' := (fset F 53 (F_X12_blank nv (F 53) p0).2)) hB hT tm hun rfl rfl (fun k hk => by
      by_cases e53 : k = 53
      · subst e53; exact absurd hk (by decide)
      unfold fset
      rw [if_neg e53]) (fun k hk => by
      simp only [List.mem_cons, List.not_mem_nil, or_false] at hk
      subst hk
      exact hP 1 _ rfl) e2⟩
set_option maxHeartbeats 4000000 in
theorem E12_taleV {l : Launch} {g : GG} {Γ : Nat → Nat} {m0 n nv np : Nat} {fb : Nat → Int32} {V : Nat → VV} (hU : UQ TS0 Γ) (hnv : nv ≤ 10) (tm : Γ m0 = 60) (p0 : Int32) (p1 : Int32) (p2 : Int32) (p3 : Int32) : EX l g yX12_tale cX12_tale 5 (some .boolean) pX12_tale_0 Γ [.ref m0, .int p0, .int p1, .int p2, .int p3] (fun H => RR1 g m0 n fb nv np H ∧ RRV g m0 nv V H) (fun _ v H1 => v = .int (vAns nv V p0 0 (fun w => (F_X11_tale1 w.p w.ta p1 p2 p3).1)) ∧ RRV g m0 nv (vNew nv V p0 (fun w : VV => (w.sta ((F_X11_tale1 w.p w.ta p1 p2 p3).2)))) H1) :=
  EX_of (SX12_tale_0 l g) hU ⟨av_ref tm (by decide), avi_top _, avi_top _, avi_top _, avi_top _, trivial⟩ rfl fun H hT hR => by
    obtain ⟨hR, B, F, hB, hP0⟩ := hR
    obtain ⟨tr, er, h1, h2, h3, h4, h5⟩ := hR.tags hT tm
    obtain ⟨ws, A0, hv⟩ := h_obj hT (by rw [tm]; decide) ((congrArg TS0.1 tm).trans rfl)
    have hk := KV_of hv
    have hlen := KV_len hk
    have F1 := at_fe (k := 1) A0 rfl (by rw [hlen]; decide) h1
    have F2 := at_fe (k := 2) A0 rfl (by rw [hlen]; decide) h2
    have F18 := at_fe (k := 18) A0 rfl (by rw [hlen]; decide) h3
    have F27 := at_fe (k := 27) A0 rfl (by rw [hlen]; decide) h4
    have G6 := at_fe (k := 6) A0 rfl (by rw [hlen]; decide) (hB 6 (by decide)).1
    have G61 := at_fe (k := 61) A0 rfl (by rw [hlen]; decide) (hB 61 (by decide)).1
    refine ⟨2, _, _, by decide, K_X12_tale l g m0 ws nv (B 6) (F 6) (B 61) (F 61) p0 p1 p2 p3 hlen F18 G6 G61 hnv hP0.pe, vaP_cons A0 (vaP_cons (hB 6 (by decide)).2 (vaP_cons (hB 61 (by decide)).2 vaP_nil)), D_tags (tl := [60, 62, 96]) (by show [Γ m0, Γ (B 6), Γ (B 61)] = _; rw [tm, (hB.tag hT tm (k := 6) (by decide)).1, (hB.tag hT tm (k := 61) (by decide)).1]; rfl) (by decide) (by decide), fun x u H1 hp hP hz hk hT1 hun => ?_⟩
    obtain ⟨rfl, rfl⟩ := hp
    obtain ⟨e1, e2⟩ := tale_agree (x := p0) (y := p1) (z := p2) (t := p3) hnv hP0
    exact ⟨congrArg Value.int e1, RRV.upd (ks := [61]) (F' := (fset F 61 (F_X12_tale nv (F 6) (F 61) p0 p1 p2 p3).2)) hB hT tm hun rfl rfl (fun k hk => by
      by_cases e61 : k = 61
      · subst e61; exact absurd hk (by decide)
      unfold fset
      rw [if_neg e61]) (fun k hk => by
      simp only [List.mem_cons, List.not_mem_nil, or_false] at hk
      subst hk
      exact hP 2 _ rfl) e2⟩

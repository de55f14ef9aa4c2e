/-! when: the first hour of its kind -/
theorem bk_cong {f g k8 : Nat → Int32} {p : Nat} (hp : p ≤ 7) (h : ∀ x : Nat, x < p → f x = g x) : ∀ m j : Nat, j ≤ p → L1_X1_isBroken f p k8 m j = L1_X1_isBroken g p k8 m j
  | 0, _, _ => rfl
  | m + 1, j, hj => by
    rw [L1_X1_isBroken, L1_X1_isBroken]
    by_cases c : nI p ≤ nI j
    · rw [if_pos c, if_pos c]
    · have hl : j < p := Nat.not_le.mp fun q => c ((nI_leI (by omega) (by omega)).mpr q)
      rw [if_neg c, if_neg c, h j hl, bk_cong hp h m (j + 1) hl]
theorem dn_cong {f g k7 k7' : Nat → Int32} {p : Nat} {wo : Int32} (hp : p ≤ 7) (h : ∀ x : Nat, x < p → f x = g x) (h7 : ∀ x : Nat, x < p → k7 x = k7' x) : ∀ m j : Nat, j ≤ p → L1_X1_isDone f p k7 wo m j = L1_X1_isDone g p k7' wo m j
  | 0, _, _ => rfl
  | m + 1, j, hj => by
    rw [L1_X1_isDone, L1_X1_isDone]
    by_cases c : nI p ≤ nI j
    · rw [if_pos c, if_pos c]
    · have hl : j < p := Nat.not_le.mp fun q => c ((nI_leI (by omega) (by omega)).mpr q)
      rw [if_neg c, if_neg c, h j hl, h7 j hl, dn_cong hp h h7 m (j + 1) hl]
theorem mustOf_eq {rM mu : Nat → Int32} {v9 x : Nat} (hx : x < 32) (h : ∀ j : Nat, j < 4 → rM (4 * v9 + j) = mu j) : F_X12_mustOf rM v9 x = nwr mu x := by
  have e : ∀ m : Nat, L1_X12_mustOf rM v9 x 0 m = L7_X12_carry rM v9 x 0 m := fun m => by
    induction m with
    | zero => rfl
    | succ m ih =>
      show L1_X12_mustOfs rM v9 x m (L1_X12_mustOf rM v9 x 0 m) = L7_X12_carrys rM v9 x m (L7_X12_carry rM v9 x 0 m)
      rw [ih]; rfl
  unfold F_X12_mustOf nwr F_X10_newsOfOne
  rw [e, nwk_eq hx h 4 (Nat.le_refl _)]
theorem allKnow_eq {rM mu aF g : Nat → Int32} {v9 p ho : Nat} {wo : Int32} (hp : p ≤ 7) (hM : ∀ j : Nat, j < 4 → rM (4 * v9 + j) = mu j) (h : ∀ x : Nat, x < p → aF (7 * ho + x) = g x) : F_X12_allKnow rM aF v9 p ho wo = F_X1_isDone g p (nwr mu) wo := by
  have e : ∀ m j : Nat, j ≤ p → L1_X12_allKnow rM aF v9 p ho wo m j = L1_X1_isDone g p (nwr mu) wo m j := by
    intro m
    induction m with
    | zero => intro j _; rfl
    | succ m ih =>
      intro j hj
      rw [L1_X12_allKnow, L1_X1_isDone]
      by_cases c : nI p ≤ nI j
      · rw [if_pos c, if_pos c]
      · have hl : j < p := Nat.not_le.mp fun q => c ((nI_leI (by omega) (by omega)).mpr q)
        rw [if_neg c, if_neg c, mustOf_eq (by omega) hM, h j hl, ih (j + 1) hl]
  exact e _ 0 (Nat.zero_le _)
def whL (f : Nat → Int32) : Nat → Nat → Int32
  | 0, _ => 0
  | m + 1, j => if 24 < nI j then -1 else (if f j = 0 then whL f m (j + 1) else nI j)
def whC (v : VV) (w : PP) (y : Int32) : Nat → Int32 := fun j => if y = 0 then F_X1_isBroken (hw7 (kC v w 0 (-1)) j) v.p (nwr v.mn) else F_X1_isDone (hw7 (kC v w 0 (-1)) j) v.p (nwr v.mu) (-1)
def whA (np : Nat) (V : Nat → VV) (P : Nat → PP) (x y : Int32) : Int32 := if F_X12_isPlan np x = 0 then -1 else (if y < 0 then -1 else (if y ≤ 1 then whL (whC (V (P (tN x)).v) (P (tN x)) y) 26 0 else -1))
theorem whA_no {np : Nat} {V : Nat → VV} {P : Nat → PP} {x y : Int32} (h : x < 0 ∨ nI np ≤ x) : whA np V P x y = -1 := if_pos (rpl_no h)
theorem whA_ok {np i : Nat} {V : Nat → VV} {P : Nat → PP} {y : Int32} (hn : np ≤ 12) (h : i < np) : whA np V P (nI i) y = if y < 0 then -1 else (if y ≤ 1 then whL (whC (V (P i).v) (P i) y) 26 0 else -1) := by
  unfold whA
  rw [if_neg (rpl_yes hn h), tN_nI (by omega)]
theorem wh_loop {v : VV} {w : PP} {y : Int32} (ok : VOK v) (nl : NLP v) (hw : PWF v.p w) (ho : ORD w) : ∀ (m j : Nat) (W R kN tO : Nat → Int32) (yd : Int32) (yu : Int64), j ≤ 25 → (L1_X11_when1 w.c v.p v.de w.h w.k w.a w.b w.o (nwr v.kn) (nwr v.mu) (nwr v.mn) (kx v) y m j W R kN tO yd yu).1 = whL (whC v w y) m j
  | 0, _, _, _, _, _, _, _, _ => rfl
  | m + 1, j, W, R, kN, tO, yd, yu, hj => by
    have hp := ok.1
    rw [L1_X11_when1, whL]
    by_cases c : 24 < nI j
    · rw [if_pos c, if_pos c]
    · have hz : j ≤ 24 := Nat.not_lt.mp fun q => c ((nI_ltI (a := 24) (b := j) (by omega) (by omega)).mpr q)
      rw [if_neg c, if_neg c]
      have e : ∀ x : Nat, x < v.p → (F_X1_carryAll kN tO w.c v.de (nI j) w.h w.k w.a w.b w.o W R (nwr v.kn) (nwr v.mn) (kx v)).1 x = hw7 (kC v w 0 (-1)) j x := fun x hx => cls_all ok nl hw ho hz hx
      by_cases c0 : y = 0
      · rw [if_pos c0]
        have ef : whC v w y j = F_X1_isBroken (hw7 (kC v w 0 (-1)) j) v.p (nwr v.mn) := if_pos c0
        have eb : F_X1_isBroken (F_X1_carryAll kN tO w.c v.de (nI j) w.h w.k w.a w.b w.o W R (nwr v.kn) (nwr v.mn) (kx v)).1 v.p (nwr v.mn) = whC v w y j := by rw [ef]; exact bk_cong hp e _ 0 (Nat.zero_le _)
        rw [eb]
        by_cases c1 : whC v w y j = 0
        · rw [if_pos c1, if_pos c1]
          exact wh_loop ok nl hw ho m (j + 1) _ _ _ _ _ _ (by omega)
        · rw [if_neg c1, if_neg c1]
      · rw [if_neg c0]
        have ef : whC v w y j = F_X1_isDone (hw7 (kC v w 0 (-1)) j) v.p (nwr v.mu) (-1) := if_neg c0
        have eb : F_X1_isDone (F_X1_carryAll kN tO w.c v.de (nI j) w.h w.k w.a w.b w.o W R (nwr v.kn) (nwr v.mn) (kx v)).1 v.p (nwr v.mu) (-1) = whC v w y j := by rw [ef]; exact dn_cong hp e (fun _ _ => rfl) _ 0 (Nat.zero_le _)
        rw [eb]
        by_cases c1 : whC v w y j = 0
        · rw [if_pos c1, if_pos c1]
          exact wh_loop ok nl hw ho m (j + 1) _ _ _ _ _ _ (by omega)
        · rw [if_neg c1, if_neg c1]
theorem wh_cls {np i : Nat} {V : Nat → VV} {P : Nat → PP} {W R kN tO : Nat → Int32} {yd y : Int32} {yu : Int64} (hnp : np ≤ 12) (hi : i < np) (ok : VOK (V (P i).v)) (nl : NLP (V (P i).v)) (hw : PWF (V (P i).v).p (P i)) (ho : ORD (P i)) : (F_X11_when1 (P i).c (V (P i).v).p (V (P i).v).de yd yu kN tO (P i).h (P i).k (P i).a (P i).b (P i).o W R (nwr (V (P i).v).kn) (nwr (V (P i).v).mu) (nwr (V (P i).v).mn) (kx (V (P i).v)) y).1 = whA np V P (nI i) y := by
  rw [whA_ok hnp hi]
  unfold F_X11_when1
  by_cases h1 : y < 0
  · rw [if_pos h1, if_pos h1]
  · rw [if_neg h1, if_neg h1]
    by_cases h2 : y ≤ 1
    · rw [if_pos h2, if_pos h2]
      exact wh_loop ok nl hw ho 26 0 _ _ _ _ _ _ (by omega)
    · rw [if_neg h2, if_neg h2]
theorem L2_wh {rP rL rA rB rF rT rW rO pO pC pH pK pA pB pW pR rD rK rS aF oN fR tW g k8 : Nat → Int32} {x y : Int32} {j p : Nat} {k : Int32 × (Nat → Int32) × (Nat → Int32) × (Nat → Int32) × (Nat → Int32) × (Nat → Int32) × (Nat → Int32)} (hp : p ≤ 7) (hy : y = 0) (eP : rP (tN (pO (tN x))) = nI p) (h8 : ∀ o : Nat, o < p → F_X12_notFor rS (tN (pO (tN x))) o = k8 o) (hA : ∀ o : Nat, o < p → (F_X12_carryAll rA rB rF rT rW rO pH pK pA pB pW pR rD rK rS aF oN fR tW (tN (rL (tN (pO (tN x))))) (tN (rP (tN (pO (tN x))))) (tN x) (tN (pO (tN x))) (tN (pC (tN x)))).2.2.1 (7 * j + o) = g o) : ∀ m o : Nat, o ≤ p → p < m + o → (L2_X12_when rP rL rA rB rF rT rW rO pO pC pH pK pA pB pW pR rD rK rS aF oN fR tW x y j k m o).1 = if L1_X1_isBroken g p k8 m o = 0 then k.1 else nI j
  | 0, o, h1, h2 => by omega
  | m + 1, o, h1, h2 => by
    have e3 : nI (tN (rP (tN (pO (tN x))))) = nI p := by rw [eP, tN_nI (by omega)]
    rw [L2_X12_when, L1_X1_isBroken, e3]
    by_cases c : nI p ≤ nI o
    · rw [if_pos c, if_pos c, if_pos rfl]
    · have hl : o < p := Nat.not_le.mp fun q => c ((nI_leI (by omega) (by omega)).mpr q)
      rw [if_neg c, if_neg c, if_pos hy, h8 o hl, hA o hl, Int32.and_comm (k8 o) (g o)]
      by_cases z : g o &&& k8 o = 0
      · rw [if_pos z, if_pos z]
        exact L2_wh hp hy eP h8 hA m (o + 1) (by omega) (by omega)
      · rw [if_neg z, if_neg z, if_neg (show ¬ ((1 : Int32) = 0) by decide)]
theorem L3_wh {rP rL rA rB rF rT rW rO pO pC pH pK pA pB pW pR rD rK rS aF oN fR tW : Nat → Int32} {x y : Int32} {j m o : Nat} {k : Int32 × (Nat → Int32) × (Nat → Int32) × (Nat → Int32) × (Nat → Int32) × (Nat → Int32) × (Nat → Int32)} (hy : ¬ y = 0) : L3_X12_when rP rL rA rB rF rT rW rO pO pC pH pK pA pB pW pR rD rK rS aF oN fR tW x y j k (m + 1) o = k := by
  rw [L3_X12_when]
  split
  · rfl
  · rfl
theorem L1_wh {rP rL rA rB rF rT rW rO pO pC pH pK pA pB pW pR rD rK rS aF oN fR tW rM : Nat → Int32} {x y : Int32} {v : VV} {w : PP} (hp : v.p ≤ 7) (hy : y = 0 ∨ y = 1) (eP : rP (tN (pO (tN x))) = nI v.p) (h8 : ∀ o : Nat, o < v.p → F_X12_notFor rS (tN (pO (tN x))) o = nwr v.mn o) (h7 : ∀ j : Nat, j < 4 → rM (4 * tN (pO (tN x)) + j) = v.mu j) (hA : ∀ j : Nat, j ≤ 24 → ∀ o : Nat, o < v.p → (F_X12_carryAll rA rB rF rT rW rO pH pK pA pB pW pR rD rK rS aF oN fR tW (tN (rL (tN (pO (tN x))))) (tN (rP (tN (pO (tN x))))) (tN x) (tN (pO (tN x))) (tN (pC (tN x)))).2.2.1 (7 * j + o) = hw7 (kC v w 0 (-1)) j o) : ∀ m j : Nat, j ≤ 25 → (L1_X12_when rP rL rA rB rF rT rW rO pO pC pH pK pA pB pW pR rD rK rS aF oN fR tW rM x y m j).1 = whL (whC v w y) m j
  | 0, _, _ => rfl
  | m + 1, j, hj => by
    have e4 : tN (rP (tN (pO (tN x)))) = v.p := by rw [eP, tN_nI (by omega)]
    rw [L1_X12_when, whL]
    by_cases c : 24 < nI j
    · rw [if_pos c, if_pos c]
    · have hz : j ≤ 24 := Nat.not_lt.mp fun q => c ((nI_ltI (a := 24) (b := j) (by omega) (by omega)).mpr q)
      have ih := L1_wh hp hy eP h8 h7 hA m (j + 1) (by omega)
      rw [if_neg c, if_neg c]
      by_cases c1 : y = 1
      · rw [if_pos c1]
        have n0 : ¬ y = 0 := by rw [c1]; decide
        have eb : F_X12_allKnow rM (F_X12_carryAll rA rB rF rT rW rO pH pK pA pB pW pR rD rK rS aF oN fR tW (tN (rL (tN (pO (tN x))))) (tN (rP (tN (pO (tN x))))) (tN x) (tN (pO (tN x))) (tN (pC (tN x)))).2.2.1 (tN (pO (tN x))) (tN (rP (tN (pO (tN x))))) j (-1) = whC v w y j := by
          have h := allKnow_eq (wo := -1) (v9 := tN (pO (tN x))) (ho := j) hp h7 (hA j hz)
          rw [← e4] at h
          rw [h, e4]
          exact (if_neg n0 : whC v w y j = _).symm
        rw [eb]
        by_cases c2 : whC v w y j = 0
        · rw [if_pos c2, if_pos c2, L3_wh n0]
          exact ih
        · rw [if_neg c2, if_neg c2]
      · rw [if_neg c1]
        have c0 : y = 0 := hy.resolve_right c1
        have ef : whC v w y j = L1_X1_isBroken (hw7 (kC v w 0 (-1)) j) v.p (nwr v.mn) (v.p + 1) 0 := if_pos c0
        rw [L2_wh hp c0 eP h8 (hA j hz) _ 0 (Nat.zero_le _) (by rw [e4]; omega), e4, ← ef]
        by_cases c2 : whC v w y j = 0
        · rw [if_pos c2, if_pos c2]
          exact ih
        · rw [if_neg c2, if_neg c2]
theorem wh_ref {nv np : Nat} {V : Nat → VV} {P : Nat → PP} {F G : Nat → Nat → Int32} {W R aF oN fR tW : Nat → Int32} {x y : Int32} (hnv : nv ≤ 10) (hnp : np ≤ 12) (hV : RPW nv V F) (ow : ∀ i : Nat, i < nv → OWB (V i)) (hZ : PLX nv V np P) (hG : RPP np P G) : (F_X12_when np (F 6) (F 7) (F 12) (F 13) (F 14) (F 15) (F 16) (F 17) (G 21) (G 22) (G 23) (G 24) (G 25) (G 26) W R (F 8) (F 9) (F 11) aF oN fR tW (F 10) x y).1 = whA np V P x y := by
  rcases vin_cases (n := np) (by omega) x with hb | ⟨i, hi, rfl⟩
  · rw [whA_no hb]
    unfold F_X12_when
    rw [rpl_no hb, if_pos rfl]
  · rw [whA_ok hnp hi]
    obtain ⟨hv, hw⟩ := hZ.1 i hi
    obtain ⟨g21, g22, g⟩ := hG i hi
    obtain ⟨ok, hr⟩ := hV (P i).v hv
    have hc := hw.1
    have hp := ok.1
    have hlc := ok.2.1
    have ei : tN (nI i) = i := tN_nI (by omega)
    have ev : tN (G 21 (tN (nI i))) = (P i).v := by rw [ei, g21, tN_nI (by omega)]
    have ec : tN (G 22 (tN (nI i))) = (P i).c := by rw [ei, g22, tN_nI (by omega)]
    have ep : tN (F 6 (P i).v) = (V (P i).v).p := by rw [hr.1, tN_nI (by omega)]
    have el : tN (F 7 (P i).v) = (V (P i).v).lc := by rw [hr.2.1, tN_nI (by omega)]
    unfold F_X12_when F_X12_isIn
    rw [if_neg (rpl_yes hnp hi)]
    by_cases h1 : y < 0
    · rw [if_pos h1, if_pos rfl, if_pos h1]
    · rw [if_neg h1, if_neg h1]
      by_cases h2 : 1 < y
      · rw [if_pos h2, if_pos rfl, if_neg (Int32.not_le.mpr h2)]
      · rw [if_neg h2, if_neg (show ¬ ((1 : Int32) = 0) by decide), if_pos (Int32.not_lt.mp h2)]
        refine L1_wh hp (in01 h1 h2) (by rw [ev]; exact hr.1) (fun o ho => by rw [ev]; exact notFor_eq (by omega) fun j hj => (hr.2.2.2.1 j hj).2.2) (fun j hj => by rw [ev]; exact (hr.2.2.2.1 j hj).2.1) (fun j hj o ho => ?_) 26 0 (by omega)
        rw [ei] at ev ec
        rw [ei, ev, ec, ep, el]
        exact ref_all ok (ow _ hv) (hZ.2.2 _ hv) hr hw g hj ho

/-! what is known after an hour: one row, whichever side carries -/
def kC (v : VV) (w : PP) (lo : Int64) (wo : Int32) : Nat → Int32 := (F_X12_carry (fun _ => v.de) v.kn v.mn w.h w.k w.a (vdT (kx v) w) (rcT (kx v) w) (fun _ => 0) (fun _ => 0) (fun _ => 0) (fun _ => 0) v.p 0 0 w.c lo wo).1
section
variable {v : VV} {w : PP} {lo : Int64} {wo : Int32} {W R W' R' kN tO : Nat → Int32} {z x : Nat}
theorem kC_at (ok : VOK v) (nl : NLP v) (hw : PWF v.p w) (hJ : JD v w W R) (hz : z ≤ 24) (hx : x < v.p) : (cHS v.de lo wo w W R (nwr v.mn) (nwr v.kn) kN tO (z + 1)).1 x = kC v w lo wo (7 * z + x) :=
  (carry_agree (i := 0) (v9 := 0) (rD := fun _ => v.de) (rK := v.kn) (rS := v.mn) (G23 := w.h) (G24 := w.k) (G25 := w.a) (lo := lo) (wo := wo) (kN := kN) (tO := tO) (aF := fun _ => 0) (oN := fun _ => 0) (fR := fun _ => 0) (tW := fun _ => 0) ok nl hw hJ (W' := vdT (kx v) w) (R' := rcT (kx v) w) (fun _ _ => ⟨rfl, rfl⟩) (fun k _ => by rw [show 40 * 0 + k = k by omega]; exact ⟨rfl, rfl, rfl⟩) rfl (fun j _ => by rw [show 4 * 0 + j = j by omega]) (fun j _ => by rw [show 4 * 0 + j = j by omega])).kn z hz x hx
theorem cls_carry (ok : VOK v) (nl : NLP v) (hw : PWF v.p w) (ho : ORD w) (hJ : JD v w W R) (hz : z ≤ 24) (hx : x < v.p) : (F_X1_carry kN tO w.c v.de (nI z) lo wo w.h w.k w.a w.b w.o W R (nwr v.kn) (nwr v.mn)).1 x = kC v w lo wo (7 * z + x) := by
  rw [carry_eq hw ho hz]
  exact kC_at ok nl hw hJ hz hx
theorem ref_carry {rD rK rS G23 G24 G25 aF oN fR tW : Nat → Int32} {i v9 : Nat} (ok : VOK v) (nl : NLP v) (hw : PWF v.p w) (hJ' : JD v w W' R') (g : PRW4 G23 G24 G25 i w) (hD : rD v9 = v.de) (hK : ∀ j : Nat, j < 4 → rK (4 * v9 + j) = v.kn j) (hS : ∀ j : Nat, j < 4 → rS (4 * v9 + j) = v.mn j) (hz : z ≤ 24) (hx : x < v.p) : (F_X12_carry rD rK rS G23 G24 G25 W' R' aF oN fR tW v.p i v9 w.c lo wo).1 (7 * z + x) = kC v w lo wo (7 * z + x) := by
  have h1 := (carry_agree (lo := lo) (wo := wo) (kN := fun _ => 0) (tO := fun _ => 0) (aF := aF) (oN := oN) (fR := fR) (tW := tW) (W := vdT (kx v) w) (R := rcT (kx v) w) ok nl hw (fun _ _ => ⟨rfl, rfl⟩) hJ' g hD hK hS).kn z hz x hx
  exact h1.symm.trans (kC_at ok nl hw (fun _ _ => ⟨rfl, rfl⟩) hz hx)
theorem cls_all (ok : VOK v) (nl : NLP v) (hw : PWF v.p w) (ho : ORD w) (hz : z ≤ 24) (hx : x < v.p) : (F_X1_carryAll kN tO w.c v.de (nI z) w.h w.k w.a w.b w.o W R (nwr v.kn) (nwr v.mn) (kx v)).1 x = kC v w 0 (-1) (7 * z + x) :=
  cls_carry ok nl hw ho (fun _ ht => clsJ hw ho ht) hz hx
theorem ref_all {F G : Nat → Nat → Int32} {aF oN fR tW : Nat → Int32} {i : Nat} (ok : VOK v) (ow : OWB v) (nl : NLP v) (hr : RP1 F w.v v) (hw : PWF v.p w) (g : PRW G i w) (hz : z ≤ 24) (hx : x < v.p) : (F_X12_carryAll (F 12) (F 13) (F 14) (F 15) (F 16) (F 17) (G 23) (G 24) (G 25) (G 26) W R (F 8) (F 9) (F 11) aF oN fR tW v.lc v.p i w.v w.c).2.2.1 (7 * z + x) = kC v w 0 (-1) (7 * z + x) :=
  ref_carry ok nl hw (fun _ ht => refJ ok ow nl hr hw g ht) (fun k hk => ⟨(g k hk).1, (g k hk).2.1, (g k hk).2.2.1⟩) hr.2.2.1 (fun j hj => (hr.2.2.2.1 j hj).1) (fun j hj => (hr.2.2.2.1 j hj).2.2) hz hx
end
theorem hfz_at {x : Int32} (h : ¬ F_X11_isHourOrFirst x = 0) : x = nI (tN x) ∧ tN x ≤ 24 := by
  unfold F_X11_isHourOrFirst at h
  by_cases h1 : x < 0
  · rw [if_pos h1] at h; exact absurd rfl h
  · rw [if_neg h1] at h
    by_cases h2 : 24 < x
    · rw [if_pos h2] at h; exact absurd rfl h
    · obtain ⟨a, b, c⟩ := bn_at (lo := 0) (hi := 24) (by omega) (Int32.not_lt.mp h1) (Int32.not_lt.mp h2)
      exact ⟨a, c⟩
theorem hf_eq {x : Int32} : F_X12_isIn x 0 24 = F_X11_isHourOrFirst x := rfl
/-! known -/
/-! together -/
def tgF (y : Int32) (f : Nat → Int32) : Nat → Int32
  | 0 => 0
  | m + 1 => if hasv y (nI m) = 0 then tgF y f m else tgF y f m ||| f m
def tgA (np : Nat) (V : Nat → VV) (P : Nat → PP) (x y z : Int32) : Int32 := if F_X12_isPlan np x = 0 then -1 else (if y < 1 then -1 else (if evy (nI (V (P (tN x)).v).p) < y then -1 else (if F_X11_isHourOrFirst z = 0 then -1 else tgF y (fun j => kC (V (P (tN x)).v) (P (tN x)) 0 (-1) (7 * tN z + j)) (V (P (tN x)).v).p)))
theorem tgA_no {np : Nat} {V : Nat → VV} {P : Nat → PP} {x y z : Int32} (h : x < 0 ∨ nI np ≤ x) : tgA np V P x y z = -1 := if_pos (rpl_no h)
theorem tgA_ok {np i : Nat} {V : Nat → VV} {P : Nat → PP} {y z : Int32} (hn : np ≤ 12) (h : i < np) : tgA np V P (nI i) y z = if y < 1 then -1 else (if evy (nI (V (P i).v).p) < y then -1 else (if F_X11_isHourOrFirst z = 0 then -1 else tgF y (fun j => kC (V (P i).v) (P i) 0 (-1) (7 * tN z + j)) (V (P i).v).p)) := by
  unfold tgA
  rw [if_neg (rpl_yes hn h), tN_nI (by omega)]
theorem tg_cls {np i : Nat} {V : Nat → VV} {P : Nat → PP} {W R kN tO : Nat → Int32} {yd y z : Int32} {yu : Int64} (hnp : np ≤ 12) (hi : i < np) (ok : VOK (V (P i).v)) (nl : NLP (V (P i).v)) (hw : PWF (V (P i).v).p (P i)) (ho : ORD (P i)) : (F_X11_together1 (P i).c (V (P i).v).p (V (P i).v).de yd yu kN tO (P i).h (P i).k (P i).a (P i).b (P i).o W R (nwr (V (P i).v).kn) (nwr (V (P i).v).mn) (kx (V (P i).v)) y z).1 = tgA np V P (nI i) y z := by
  rw [tgA_ok hnp hi]
  unfold F_X11_together1
  by_cases h1 : y < 1
  · rw [if_pos h1, if_pos h1]
  · rw [if_neg h1, if_neg h1]
    by_cases h2 : evy (nI (V (P i).v).p) < y
    · rw [if_pos h2, if_pos h2]
    · rw [if_neg h2, if_neg h2]
      by_cases h3 : F_X11_isHourOrFirst z = 0
      · rw [if_pos h3, if_pos h3]
      · rw [if_neg h3, if_neg h3]
        have hp := ok.1
        obtain ⟨ez, hz⟩ := hfz_at h3
        have e : ∀ m : Nat, m ≤ (V (P i).v).p → L1_X11_together1 (P i).c (V (P i).v).de kN tO (P i).h (P i).k (P i).a (P i).b (P i).o W R (nwr (V (P i).v).kn) (nwr (V (P i).v).mn) (kx (V (P i).v)) y z 0 m = tgF y (fun j => kC (V (P i).v) (P i) 0 (-1) (7 * tN z + j)) m := by
          intro m
          induction m with
          | zero => intro _; rfl
          | succ m ih =>
            intro hm
            have h := cls_all (W := W) (R := R) (kN := kN) (tO := tO) ok nl hw ho hz (show m < (V (P i).v).p by omega)
            rw [← ez] at h
            rw [L1_X11_together1, L1_X11_together1s, tgF, ih (by omega), h]
        exact e _ (Nat.le_refl _)
theorem shr_1 {x : Int32} {b : Nat} (hb : b < 32) : (x >>> (nI b &&& 31)) &&& 1 = 1 ↔ ¬ hasv x (nI b) = 0 := by
  rw [hvb_0 hb, ← shr_0 hb]
  have e : (x >>> (nI b &&& 31)) &&& (1 : Int32) = 0 ∨ (x >>> (nI b &&& 31)) &&& (1 : Int32) = 1 := by
    generalize x >>> (nI b &&& 31) = y
    cases h : bt y 0 with
    | true => exact Or.inr (and1_1.mpr h)
    | false =>
      refine Or.inl (b_ext fun i hi => ?_)
      rw [b_and, b_one i hi, b_0]
      by_cases e : i = 0
      · subst e; rw [h]; rfl
      · rw [decide_eq_false e, Bool.and_false]
  constructor
  · intro h q; rw [h] at q; exact absurd q (by decide)
  · intro h; exact e.resolve_left h
theorem tg_ref {nv np : Nat} {V : Nat → VV} {P : Nat → PP} {F G : Nat → Nat → Int32} {W R aF oN fR tW : Nat → Int32} {x y z : Int32} (hnv : nv ≤ 10) (hnp : np ≤ 12) (hV : RPW nv V F) (ow : ∀ i : Nat, i < nv → OWB (V i)) (hZ : PLX nv V np P) (hG : RPP np P G) : (F_X12_together np (F 6) (F 7) (F 12) (F 13) (F 14) (F 15) (F 16) (F 17) (G 21) (G 22) (G 23) (G 24) (G 25) (G 26) W R (F 8) (F 9) (F 11) aF oN fR tW x y z).1 = tgA np V P x y z := by
  rcases vin_cases (n := np) (by omega) x with hb | ⟨i, hi, rfl⟩
  · rw [tgA_no hb]
    unfold F_X12_together
    rw [rpl_no hb, if_pos rfl]
  · rw [tgA_ok hnp hi]
    obtain ⟨hv, hw⟩ := hZ.1 i hi
    obtain ⟨g21, g22, g⟩ := hG i hi
    obtain ⟨ok, hr⟩ := hV (P i).v hv
    have hc := hw.1
    have hp := ok.1
    have hlc := ok.2.1
    have ev : tN (G 21 i) = (P i).v := by rw [g21, tN_nI (by omega)]
    have ec : tN (G 22 i) = (P i).c := by rw [g22, tN_nI (by omega)]
    have ep : tN (F 6 (P i).v) = (V (P i).v).p := by rw [hr.1, tN_nI (by omega)]
    have el : tN (F 7 (P i).v) = (V (P i).v).lc := by rw [hr.2.1, tN_nI (by omega)]
    have e : ¬ F_X11_isHourOrFirst z = 0 → ∀ m : Nat, m ≤ (V (P i).v).p → L1_X12_together (F 6) (F 7) (F 12) (F 13) (F 14) (F 15) (F 16) (F 17) (G 21) (G 22) (G 23) (G 24) (G 25) (G 26) W R (F 8) (F 9) (F 11) aF oN fR tW (nI i) y z 0 m = tgF y (fun j => kC (V (P i).v) (P i) 0 (-1) (7 * tN z + j)) m := by
      intro h3 m
      induction m with
      | zero => intro _; rfl
      | succ m ih =>
        intro hm
        rw [L1_X12_together, L1_X12_togethers, tgF, ih (by omega), tN_nI (show i < 2 ^ 31 by omega), ev, ec, ep, el, ref_all ok (ow _ hv) (hZ.2.2 _ hv) hr hw g (hfz_at h3).2 (show m < (V (P i).v).p by omega)]
        by_cases c : hasv y (nI m) = 0
        · rw [if_pos c, if_neg (fun q => (shr_1 (by omega)).mp q c), or_0]
        · rw [if_neg c, if_pos ((shr_1 (by omega)).mpr c)]
    unfold F_X12_together F_X12_everybody
    rw [if_neg (rpl_yes hnp hi), tN_nI (show i < 2 ^ 31 by omega), ev, ec, ep, el, hr.1, hf_eq]
    unfold F_X12_isIn
    show _ = if y < 1 then (-1 : Int32) else if ((1 : Int32) <<< (nI (V (P i).v).p &&& 31)) - 1 < y then -1 else _
    by_cases h1 : y < 1
    · rw [if_pos h1, if_pos rfl, if_pos h1]
    · rw [if_neg h1, if_neg h1]
      by_cases h2 : ((1 : Int32) <<< (nI (V (P i).v).p &&& 31)) - 1 < y
      · rw [if_pos h2, if_pos rfl, if_pos h2]
      · rw [if_neg h2, if_neg h2, if_neg (show ¬ ((1 : Int32) = 0) by decide)]
        by_cases h3 : F_X11_isHourOrFirst z = 0
        · rw [if_pos h3, if_pos h3]
        · rw [if_neg h3, if_neg h3]
          exact e h3 _ (Nat.le_refl _)

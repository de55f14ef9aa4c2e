/-! breaker: the lowest one without whom not all that must come comes -/
def brL (f : Nat → Int32) (p : Nat) : Nat → Nat → Int32
  | 0, _ => 0
  | m + 1, j => if nI p ≤ nI j then -1 else (if f j = 0 then nI j else brL f p m (j + 1))
def brC (v : VV) (w : PP) : Nat → Int32 := fun j => F_X1_isDone (hw7 (kC v w 0 (nI j)) 24) v.p (nwr v.mu) (nI j)
def brA (np : Nat) (V : Nat → VV) (P : Nat → PP) (x : Int32) : Int32 := if F_X12_isPlan np x = 0 then -1 else brL (brC (V (P (tN x)).v) (P (tN x))) (V (P (tN x)).v).p ((V (P (tN x)).v).p + 1) 0
theorem brA_no {np : Nat} {V : Nat → VV} {P : Nat → PP} {x : Int32} (h : x < 0 ∨ nI np ≤ x) : brA np V P x = -1 := if_pos (rpl_no h)
theorem brA_ok {np i : Nat} {V : Nat → VV} {P : Nat → PP} (hn : np ≤ 12) (h : i < np) : brA np V P (nI i) = brL (brC (V (P i).v) (P i)) (V (P i).v).p ((V (P i).v).p + 1) 0 := by
  unfold brA
  rw [if_neg (rpl_yes hn h), tN_nI (by omega)]
theorem bears_cls {v : VV} {w : PP} {lo : Int64} {wo : Int32} {W R kN tO : Nat → Int32} (ok : VOK v) (nl : NLP v) (hw : PWF v.p w) (ho : ORD w) (hJ : JD v w W R) : (F_X1_bears kN tO w.c v.p v.de lo wo w.h w.k w.a w.b w.o W R (nwr v.kn) (nwr v.mu) (nwr v.mn)).1 = F_X1_isDone (hw7 (kC v w lo wo) 24) v.p (nwr v.mu) wo := by
  have e : ∀ x : Nat, x < v.p → (F_X1_carry kN tO w.c v.de (nI 24) lo wo w.h w.k w.a w.b w.o W R (nwr v.kn) (nwr v.mn)).1 x = hw7 (kC v w lo wo) 24 x := fun x hx => cls_carry ok nl hw ho hJ (Nat.le_refl _) hx
  exact dn_cong ok.1 e (fun _ _ => rfl) _ 0 (Nat.zero_le _)
theorem br_loop {v : VV} {w : PP} {W R : Nat → Int32} (ok : VOK v) (nl : NLP v) (hw : PWF v.p w) (ho : ORD w) : ∀ (m j : Nat) (kN tO : Nat → Int32) (yd : Int32) (yu : Int64), (L1_X1_lowestBreaker w.c v.p v.de w.h w.k w.a w.b w.o W R (nwr v.kn) (nwr v.mu) (nwr v.mn) (kx v) m j kN tO yd yu).1 = brL (brC v w) v.p m j
  | 0, _, _, _, _, _ => rfl
  | m + 1, j, kN, tO, yd, yu => by
    rw [L1_X1_lowestBreaker, brL]
    by_cases c : nI v.p ≤ nI j
    · rw [if_pos c, if_pos c]
    · have e : (F_X1_bears kN tO w.c v.p v.de 0 (nI j) w.h w.k w.a w.b w.o (F_X4_judge w.c w.h w.k w.a w.b w.o W R (kx v)).1 (F_X4_judge w.c w.h w.k w.a w.b w.o W R (kx v)).2 (nwr v.kn) (nwr v.mu) (nwr v.mn)).1 = brC v w j := bears_cls ok nl hw ho fun _ ht => clsJ hw ho ht
      rw [if_neg c, if_neg c, e]
      by_cases z : brC v w j = 0
      · rw [if_pos z, if_pos z]
      · rw [if_neg z, if_neg z]
        exact br_loop ok nl hw ho m (j + 1) _ _ _ _
theorem br_cls {np i : Nat} {V : Nat → VV} {P : Nat → PP} {W R kN tO : Nat → Int32} {yd : Int32} {yu : Int64} (hnp : np ≤ 12) (hi : i < np) (ok : VOK (V (P i).v)) (nl : NLP (V (P i).v)) (hw : PWF (V (P i).v).p (P i)) (ho : ORD (P i)) : (F_X11_breaker1 (P i).c (V (P i).v).p (V (P i).v).de yd yu kN tO (P i).h (P i).k (P i).a (P i).b (P i).o W R (nwr (V (P i).v).kn) (nwr (V (P i).v).mu) (nwr (V (P i).v).mn) (kx (V (P i).v))).1 = brA np V P (nI i) := by
  rw [brA_ok hnp hi]
  exact br_loop ok nl hw ho _ 0 _ _ _ _
theorem bears_ref {F G : Nat → Nat → Int32} {v : VV} {w : PP} {lo : Int64} {wo : Int32} {W' R' aF oN fR tW : Nat → Int32} {i : Nat} (ok : VOK v) (nl : NLP v) (hr : RP1 F w.v v) (hw : PWF v.p w) (hJ' : JD v w W' R') (g : PRW G i w) : (F_X12_bears (F 8) (F 9) (F 11) (G 23) (G 24) (G 25) W' R' aF oN fR tW (F 10) v.p i w.v w.c lo wo).1 = F_X1_isDone (hw7 (kC v w lo wo) 24) v.p (nwr v.mu) wo :=
  allKnow_eq ok.1 (fun j hj => (hr.2.2.2.1 j hj).2.1) fun _ hx => ref_carry ok nl hw hJ' (fun k hk => ⟨(g k hk).1, (g k hk).2.1, (g k hk).2.2.1⟩) hr.2.2.1 (fun j hj => (hr.2.2.2.1 j hj).1) (fun j hj => (hr.2.2.2.1 j hj).2.2) (Nat.le_refl _) hx
theorem br_ref {nv np : Nat} {V : Nat → VV} {P : Nat → PP} {F G : Nat → Nat → Int32} {W R aF oN fR tW : Nat → Int32} {x : Int32} (hnv : nv ≤ 10) (hnp : np ≤ 12) (hV : RPW nv V F) (ow : ∀ i : Nat, i < nv → OWB (V i)) (hZ : PLX nv V np P) (hG : RPP np P G) : (F_X12_breaker np (F 6) (F 7) (F 12) (F 13) (F 14) (F 15) (F 16) (F 17) (G 21) (G 22) (G 23) (G 24) (G 25) (G 26) W R (F 8) (F 9) (F 11) aF oN fR tW (F 10) x).1 = brA np V P x := by
  rcases vin_cases (n := np) (by omega) x with hb | ⟨i, hi, rfl⟩
  · rw [brA_no hb]
    unfold F_X12_breaker
    rw [rpl_no hb, if_pos rfl]
  · rw [brA_ok hnp hi]
    obtain ⟨hv, hw⟩ := hZ.1 i hi
    obtain ⟨g21, g22, g⟩ := hG i hi
    obtain ⟨ok, hr⟩ := hV (P i).v hv
    have hc := hw.1
    have hp := ok.1
    have hlc := ok.2.1
    have ei : tN (nI i) = i := tN_nI (by omega)
    have ev : tN (G 21 i) = (P i).v := by rw [g21, tN_nI (by omega)]
    have ec : tN (G 22 i) = (P i).c := by rw [g22, tN_nI (by omega)]
    have ep : tN (F 6 (P i).v) = (V (P i).v).p := by rw [hr.1, tN_nI (by omega)]
    have el : tN (F 7 (P i).v) = (V (P i).v).lc := by rw [hr.2.1, tN_nI (by omega)]
    have e : ∀ (m j : Nat) (aF oN fR tW : Nat → Int32), (L1_X12_breaker (F 6) (F 7) (F 12) (F 13) (F 14) (F 15) (F 16) (F 17) (G 21) (G 22) (G 23) (G 24) (G 25) (G 26) W R (F 8) (F 9) (F 11) (F 10) (nI i) m j aF oN fR tW).1 = brL (brC (V (P i).v) (P i)) (V (P i).v).p m j := by
      intro m
      induction m with
      | zero => intro _ _ _ _ _; rfl
      | succ m ih =>
        intro j aF oN fR tW
        rw [L1_X12_breaker, brL, ei, ev, ec, ep, el]
        by_cases c : nI (V (P i).v).p ≤ nI j
        · rw [if_pos c, if_pos c]
        · rw [if_neg c, if_neg c, bears_ref ok (hZ.2.2 _ hv) hr hw (fun _ ht => refJ ok (ow _ hv) (hZ.2.2 _ hv) hr hw g ht) g]
          by_cases z : F_X1_isDone (hw7 (kC (V (P i).v) (P i) 0 (nI j)) 24) (V (P i).v).p (nwr (V (P i).v).mu) (nI j) = 0
          · rw [if_pos z, if_pos (show brC (V (P i).v) (P i) j = 0 from z)]
          · rw [if_neg z, if_neg (show ¬ brC (V (P i).v) (P i) j = 0 from z)]
            exact ih (j + 1) _ _ _ _
    unfold F_X12_breaker
    rw [if_neg (rpl_yes hnp hi), ei, ev, ep]
    exact e _ 0 _ _ _ _

/-! who knows, who was told once after so many hours of a plan: one state on both sides -/
theorem fr_bit {x a : Int32} {ni j o : Nat} (hni : ni < 32) (hj : j < 32) (ho : o < 32) : bt (x ||| (((a >>> (nI ni &&& 31)) &&& (1 : Int32)) <<< (nI j &&& 31))) o = true ↔ bt x o = true ∨ (o = j ∧ bt a ni = true) := by
  cases q : bt a ni with
  | true =>
    rw [(shrb_1 hni).mpr q, b_orsh hj ho]
    exact or_congr Iff.rfl ⟨fun e => ⟨e, rfl⟩, fun e => e.1⟩
  | false =>
    rw [(shr_0 hni).mpr q, b_or, b_shl j hj 0 ho, b_0, Bool.and_false, Bool.or_false]
    exact ⟨Or.inl, fun z => z.elim id fun z => absurd z.2 (by decide)⟩
/-- nobody beyond the valley's people knows or was told -/
def ZI (p : Nat) (s : CS) : Prop := (∀ x : Nat, x < 7 → s.2.1 x &&& s.1 x = 0) ∧ ∀ x : Nat, p ≤ x → x < 7 → s.1 x = 0 ∧ s.2.1 x = 0
section
variable {G23 G24 G25 rD rS k8 : Nat → Int32} {i v9 : Nat} {lo : Int64} {wo : Int32} {v : VV} {w : PP} {W R W' R' : Nat → Int32}
theorem zi_step (ok : VOK v) (nl : NLP v) (hw : PWF v.p w) (hJ : JD v w W R) {t : Nat} (ht : t < w.c) {s : CS} (h : ZI v.p s) : ZI v.p (cStep v.de lo wo w W R k8 t s) := by
  have hp := ok.1
  obtain ⟨eW, eR⟩ := hJ t ht
  unfold cStep
  by_cases c1 : W t = 0
  · rw [if_pos c1]
    by_cases c2 : isL lo t
    · rw [if_pos c2]; exact h
    · rw [if_neg c2]
      have ck := cok_of ok nl hw ht eR
      have ha := ck.ha
      obtain ⟨r0, -, -⟩ := vd_0 (K := kx v) (w := w) (t := t) (by omega) (by rw [← eW]; exact c1)
      have hR : ¬ w.k t = 3 → ∀ o : Nat, o < 32 → (bt (R t) o = true ↔ o = tN (w.b t)) := fun h3 o ho => by
        obtain ⟨eb, hb, -⟩ := ck.hb h3
        rw [eR]
        exact rc_one h3 eb (by omega) r0 o ho
      have hap : tN (w.a t) < v.p := (hp_at (n := v.p) (by omega) (hw.2.2 t ht).2.2.1).2
      have hat := fun x hx => call_at (yd := v.de) (wo := wo) (k8 := k8) ck h.1 x hx
      refine ⟨fun x hx => ?_, fun x hx1 hx2 => ?_⟩
      · show (F_X1_carryCall v.de s.1 s.2.1 t wo w.k w.a w.b R k8).2.2 x &&& (F_X1_carryCall v.de s.1 s.2.1 t wo w.k w.a w.b R k8).2.1 x = 0
        rw [(hat x hx).1, (hat x hx).2]
        exact tlT_k
      · have e0 : nwT w (R t) k8 wo s.1 t x = 0 := by
          by_cases z : nwT w (R t) k8 wo s.1 t x = 0
          · exact z
          · exfalso
            rcases nwT_in (by omega) hR z with q | q
            · omega
            · rw [eR] at q
              have := (rc_in ok nl hw ht (by omega) q).1
              omega
        show (F_X1_carryCall v.de s.1 s.2.1 t wo w.k w.a w.b R k8).2.1 x = 0 ∧ (F_X1_carryCall v.de s.1 s.2.1 t wo w.k w.a w.b R k8).2.2 x = 0
        rw [(hat x hx2).1, (hat x hx2).2, e0, tlK_0, tlT_0 (h.1 x hx2)]
        exact h.2 x hx1 hx2
  · rw [if_neg c1]; exact h
theorem zi_hin (ok : VOK v) (nl : NLP v) (hw : PWF v.p w) (hJ : JD v w W R) {H : Nat} {s : CS} (h : ZI v.p s) : ∀ m : Nat, m ≤ w.c → ZI v.p (hin (cStep v.de lo wo w W R k8) (hn w) H m s)
  | 0, _ => h
  | m + 1, hm => by
    have ih := zi_hin ok nl hw hJ (H := H) h m (by omega)
    rw [hin]
    by_cases c : hn w m = H
    · rw [if_pos c]; exact zi_step ok nl hw hJ (by omega) ih
    · rw [if_neg c]; exact ih
theorem zi_hrs (ok : VOK v) (nl : NLP v) (hw : PWF v.p w) (hJ : JD v w W R) {s : CS} (h : ZI v.p s) : ∀ H : Nat, ZI v.p (hrs (cStep v.de lo wo w W R k8) (hn w) w.c H s)
  | 0 => h
  | H + 1 => zi_hin ok nl hw hJ (zi_hrs ok nl hw hJ h H) w.c (Nat.le_refl _)
theorem nwr_0 {kn : Nat → Int32} {x : Nat} (hx : x < 32) (h : ∀ j : Nat, j < 4 → bt (kn j) x = false) : nwr kn x = 0 := by
  have e : ∀ m : Nat, m ≤ 4 → L1_X10_newsOfOne kn (nI x) 0 m = 0 := by
    intro m
    induction m with
    | zero => intro _; rfl
    | succ m ih =>
      intro hm
      show L1_X10_newsOfOnes kn (nI x) m (L1_X10_newsOfOne kn (nI x) 0 m) = 0
      rw [ih (by omega), L1_X10_newsOfOnes, if_pos ((hvb_0 hx).mpr (h m (by omega)))]
  exact e 4 (Nat.le_refl _)
theorem zi_0 {kN tO : Nat → Int32} (ok : VOK v) (hK : KNB v) : ZI v.p (cS0 (nwr v.kn) kN tO) := by
  have c7 : ∀ x : Nat, x < 7 → (cS0 (nwr v.kn) kN tO).1 x = nwr v.kn x ∧ (cS0 (nwr v.kn) kN tO).2.1 x = 0 := fun x hx => by
    have h := L1c_at (k6 := nwr v.kn) (kN := kN) (tO := tO) 7 x
    rw [if_pos hx, if_pos hx] at h
    exact h
  refine ⟨fun x hx => ?_, fun x hx1 hx2 => ?_⟩
  · rw [(c7 x hx).2]
    exact and_0l _
  · rw [(c7 x hx2).1, (c7 x hx2).2]
    refine ⟨nwr_0 (by omega) fun j hj => ?_, rfl⟩
    cases q : bt (v.kn j) x with
    | false => rfl
    | true =>
      have := hK j x hj (by omega) q
      omega
/-- the reference's rows of an hour stay -/
theorem L2_kept (hp : v.p ≤ 7) {aF oN fR tW : Nat → Int32} {k : Nat} : ∀ (d y : Nat), y < 7 * (k + 1) → (L2_X12_carry rD rS G23 G24 G25 W' R' v.p i v9 w.c lo wo aF oN fR tW (k + d)).1 y = (L2_X12_carry rD rS G23 G24 G25 W' R' v.p i v9 w.c lo wo aF oN fR tW k).1 y ∧ (L2_X12_carry rD rS G23 G24 G25 W' R' v.p i v9 w.c lo wo aF oN fR tW (k + d)).2.1 y = (L2_X12_carry rD rS G23 G24 G25 W' R' v.p i v9 w.c lo wo aF oN fR tW k).2.1 y
  | 0, y, _ => ⟨rfl, rfl⟩
  | d + 1, y, hy => by
    obtain ⟨i1, i2⟩ := L2_kept hp (aF := aF) (oN := oN) (fR := fR) (tW := tW) d y hy
    rw [← i1, ← i2]
    have e : L2_X12_carry rD rS G23 G24 G25 W' R' v.p i v9 w.c lo wo aF oN fR tW (k + (d + 1)) = L2_X12_carrys rD rS G23 G24 G25 W' R' v.p i v9 w.c lo wo (k + d) (L2_X12_carry rD rS G23 G24 G25 W' R' v.p i v9 w.c lo wo aF oN fR tW (k + d)).1 (L2_X12_carry rD rS G23 G24 G25 W' R' v.p i v9 w.c lo wo aF oN fR tW (k + d)).2.1 (L2_X12_carry rD rS G23 G24 G25 W' R' v.p i v9 w.c lo wo aF oN fR tW (k + d)).2.2.1 (L2_X12_carry rD rS G23 G24 G25 W' R' v.p i v9 w.c lo wo aF oN fR tW (k + d)).2.2.2 := rfl
    rw [e]
    generalize L2_X12_carry rD rS G23 G24 G25 W' R' v.p i v9 w.c lo wo aF oN fR tW (k + d) = q
    unfold L2_X12_carrys
    try dsimp only
    exact (L5_at (rD := rD) (rS := rS) (G23 := G23) (G24 := G24) (G25 := G25) (i := i) (v9 := v9) (lo := lo) (wo := wo) (v := v) (W' := W') (R' := R') (cn := w.c) (j := k + d) (aF := q.1) (oN := q.2.1) (fR := q.2.2.1) (tW := q.2.2.2) v.p hp).1 y (by omega)
theorem carry_agreeZ {rK kN tO aF oN fR tW : Nat → Int32} {z : Nat} (hz : z ≤ 24) (ok : VOK v) (nl : NLP v) (hw : PWF v.p w) (hJ : JD v w W R) (hJ' : JD v w W' R') (g : PRW4 G23 G24 G25 i w) (hD : rD v9 = v.de) (hK : ∀ j : Nat, j < 4 → rK (4 * v9 + j) = v.kn j) (hS : ∀ j : Nat, j < 4 → rS (4 * v9 + j) = v.mn j) : HIV v z (cHS v.de lo wo w W R (nwr v.mn) (nwr v.kn) kN tO) (F_X12_carry rD rK rS G23 G24 G25 W' R' aF oN fR tW v.p i v9 w.c lo wo).1 (F_X12_carry rD rK rS G23 G24 G25 W' R' aF oN fR tW v.p i v9 w.c lo wo).2.1 := by
  have hp := ok.1
  have s1 : ∀ z : Nat, z = 0 + 1 → hrs (cStep v.de lo wo w W R (nwr v.mn)) (hn w) w.c z (cS0 (nwr v.kn) kN tO) = cS0 (nwr v.kn) kN tO := fun z e => by
    subst e
    show hin _ _ 0 w.c _ = _
    exact hin_none w.c fun t ht q => by have := (hn_of hw ht).2.1; omega
  have c7 : ∀ x : Nat, x < 7 → (cS0 (nwr v.kn) kN tO).1 x = nwr v.kn x ∧ (cS0 (nwr v.kn) kN tO).2.1 x = 0 := fun x hx => by
    have h := L1c_at (k6 := nwr v.kn) (kN := kN) (tO := tO) 7 x
    rw [if_pos hx, if_pos hx] at h
    exact h
  have h0 : HIV v 0 (fun z => hrs (cStep v.de lo wo w W R (nwr v.mn)) (hn w) w.c z (cS0 (nwr v.kn) kN tO)) (L1_X12_carry rK v9 aF oN v.p).1 (L1_X12_carry rK v9 aF oN v.p).2 := by
    refine ⟨fun j hj x hx => ?_, fun x hx hd => ?_, fun x hx hd => ?_, fun x hx => ?_⟩
    · have e : j = 0 := by omega
      subst e
      show (hrs _ _ _ (0 + 1) _).1 x = _
      rw [s1 _ rfl, (c7 x (by omega)).1, Nat.mul_zero, Nat.zero_add, (L1r_at v.p x hx).1, nwk_eq (by omega) hK 4 (Nat.le_refl _)]
      rfl
    · show (hrs _ _ _ (0 + 1) _).2.1 x = _
      rw [s1 _ rfl, (c7 x (by omega)).2, Nat.mul_zero, Nat.zero_add, (L1r_at v.p x hx).2]
      exact (b_ext fun i _ => by rw [b_and, b_0, Bool.false_and]).symm
    · show (hrs _ _ _ (0 + 1) _).2.1 x = 0
      rw [s1 _ rfl, (c7 x (by omega)).2]
    · show (hrs _ _ _ (0 + 1) _).2.1 x &&& (hrs _ _ _ (0 + 1) _).1 x = 0
      rw [s1 _ rfl, (c7 x hx).2]
      exact b_ext fun i _ => by rw [b_and, b_0, Bool.false_and]
  have h := hours_at (v9 := v9) (k8 := nwr v.mn) (fR := fR) (tW := tW) ok nl hw hJ hJ' g hD (fun x hx => (notFor_eq (by omega) hS).symm) h0 z hz
  have k := fun y hy => L2_kept (rD := rD) (rS := rS) (G23 := G23) (G24 := G24) (G25 := G25) (i := i) (v9 := v9) (lo := lo) (wo := wo) (v := v) (w := w) (W' := W') (R' := R') hp (aF := (L1_X12_carry rK v9 aF oN v.p).1) (oN := (L1_X12_carry rK v9 aF oN v.p).2) (fR := fR) (tW := tW) (k := z) (24 - z) y hy
  rw [show z + (24 - z) = 24 by omega] at k
  refine ⟨fun j hj x hx => ?_, fun x hx hd => ?_, h.tn, h.inv⟩
  · exact (h.kn j hj x hx).trans (k (7 * j + x) (by omega)).1.symm
  · refine (h.td x hx hd).trans ?_
    rw [← (k (7 * z + x) (by omega)).1, ← (k (7 * z + x) (by omega)).2]
    rfl
end
/-- who was told, as the reference counts it -/
def oC (v : VV) (w : PP) : Nat → Int32 := (F_X12_carry (fun _ => v.de) v.kn v.mn w.h w.k w.a (vdT (kx v) w) (rcT (kx v) w) (fun _ => 0) (fun _ => 0) (fun _ => 0) (fun _ => 0) v.p 0 0 w.c 0 (-1)).2.1
/-- who knows a news after so many hours; who was told it once and is deaf -/
def KF (v : VV) (w : PP) (ni h : Nat) : Int32 := F_X1_whoKnows (fun o => if o < v.p then kC v w 0 (-1) (7 * h + o) else 0) ni
def OF (v : VV) (w : PP) (ni h : Nat) : Int32 := F_X1_whoKnows (fun o => if o < v.p ∧ bt v.de o = true then oC v w (7 * h + o) &&& (kC v w 0 (-1) (7 * h + o) ^^^ (-1 : Int32)) else 0) ni
section
variable {v : VV} {w : PP} {ni h : Nat}
theorem KF_bit (hp : v.p ≤ 7) (hni : ni < 4) {o : Nat} (ho : o < 32) : bt (KF v w ni h) o = true ↔ o < v.p ∧ bt (kC v w 0 (-1) (7 * h + o)) ni = true := by
  unfold KF
  rw [who_bit (by omega) ho]
  by_cases c : o < v.p
  · rw [if_pos c]; exact ⟨fun q => ⟨c, q.2⟩, fun q => ⟨by omega, q.2⟩⟩
  · rw [if_neg c, b_0]; exact ⟨fun q => absurd q.2 (by decide), fun q => absurd q.1 c⟩
theorem OF_bit (hp : v.p ≤ 7) (hni : ni < 4) {o : Nat} (ho : o < 32) : bt (OF v w ni h) o = true ↔ o < v.p ∧ bt v.de o = true ∧ bt (oC v w (7 * h + o)) ni = true ∧ bt (kC v w 0 (-1) (7 * h + o)) ni = false := by
  unfold OF
  rw [who_bit (by omega) ho]
  by_cases c : o < v.p ∧ bt v.de o = true
  · rw [if_pos c, b_and, b_nt _ (by omega), Bool.and_eq_true, Bool.not_eq_true']
    exact ⟨fun q => ⟨c.1, c.2, q.2⟩, fun q => ⟨by omega, q.2.2⟩⟩
  · rw [if_neg c, b_0]
    exact ⟨fun q => absurd q.2 (by decide), fun q => absurd ⟨q.1, q.2.1⟩ c⟩
theorem s7_of {x : Int32} {p : Nat} (hp : p ≤ 7) (e : ∀ o : Nat, o < 32 → bt x o = true → o < p) : s7 x := fun i h7 hi => by
  cases q : bt x i with
  | false => rfl
  | true =>
    have := e i hi q
    omega
theorem fr_gd (hp : v.p ≤ 7) (hni : ni < 4) : GD2 v.de (KF v w ni h) (OF v w ni h) := by
  refine ⟨s7_of hp fun o ho q => ((KF_bit hp hni ho).mp q).1, s7_of hp fun o ho q => ((OF_bit hp hni ho).mp q).1, b_ext fun i hi => ?_, fun i hi q => ((OF_bit hp hni hi).mp q).2.1⟩
  rw [b_and, b_0]
  cases q1 : bt (KF v w ni h) i with
  | false => rfl
  | true =>
    cases q2 : bt (OF v w ni h) i with
    | false => rfl
    | true =>
      have e1 := ((KF_bit hp hni hi).mp q1).2
      have e2 := ((OF_bit hp hni hi).mp q2).2.2.2
      rw [e1] at e2; cases e2
variable {kN tO W R : Nat → Int32}
theorem cls_hiv (ok : VOK v) (nl : NLP v) (hw : PWF v.p w) (hJ : JD v w W R) (hz : h ≤ 24) : HIV v h (cHS v.de 0 (-1) w W R (nwr v.mn) (nwr v.kn) kN tO) (kC v w 0 (-1)) (oC v w) :=
  carry_agreeZ (i := 0) (v9 := 0) (rD := fun _ => v.de) (rK := v.kn) (rS := v.mn) (G23 := w.h) (G24 := w.k) (G25 := w.a) (lo := 0) (wo := -1) (kN := kN) (tO := tO) (aF := fun _ => 0) (oN := fun _ => 0) (fR := fun _ => 0) (tW := fun _ => 0) hz ok nl hw hJ (W' := vdT (kx v) w) (R' := rcT (kx v) w) (fun _ _ => ⟨rfl, rfl⟩) (fun k _ => by rw [show 40 * 0 + k = k by omega]; exact ⟨rfl, rfl, rfl⟩) rfl (fun j _ => by rw [show 4 * 0 + j = j by omega]) (fun j _ => by rw [show 4 * 0 + j = j by omega])
theorem cls_sets (ok : VOK v) (nl : NLP v) (hK : KNB v) (hw : PWF v.p w) (ho : ORD w) (hni : ni < 4) (hz : h ≤ 24) : F_X1_whoKnows (F_X1_carryAll kN tO w.c v.de (nI h) w.h w.k w.a w.b w.o W R (nwr v.kn) (nwr v.mn) (kx v)).1 ni = KF v w ni h ∧ F_X1_whoIsToldOnce (F_X1_carryAll kN tO w.c v.de (nI h) w.h w.k w.a w.b w.o W R (nwr v.kn) (nwr v.mn) (kx v)).2.1 ni = OF v w ni h := by
  have hp := ok.1
  obtain ⟨W2, R2, hJ, hF⟩ : ∃ W2 R2 : Nat → Int32, JD v w W2 R2 ∧ (F_X1_carryAll kN tO w.c v.de (nI h) w.h w.k w.a w.b w.o W R (nwr v.kn) (nwr v.mn) (kx v)).1 = (F_X1_carry kN tO w.c v.de (nI h) 0 (-1) w.h w.k w.a w.b w.o W2 R2 (nwr v.kn) (nwr v.mn)).1 ∧ (F_X1_carryAll kN tO w.c v.de (nI h) w.h w.k w.a w.b w.o W R (nwr v.kn) (nwr v.mn) (kx v)).2.1 = (F_X1_carry kN tO w.c v.de (nI h) 0 (-1) w.h w.k w.a w.b w.o W2 R2 (nwr v.kn) (nwr v.mn)).2.1 := ⟨(F_X4_judge w.c w.h w.k w.a w.b w.o W R (kx v)).1, (F_X4_judge w.c w.h w.k w.a w.b w.o W R (kx v)).2, fun _ ht => clsJ hw ho ht, rfl, rfl⟩
  rw [hF.1, hF.2, carry_eq hw ho hz]
  have hh := cls_hiv (kN := kN) (tO := tO) ok nl hw hJ hz
  have hzi : ZI v.p (cHS v.de 0 (-1) w W2 R2 (nwr v.mn) (nwr v.kn) kN tO (h + 1)) := zi_hrs ok nl hw hJ (zi_0 ok hK) (h + 1)
  constructor
  · refine b_eq fun o ho => ?_
    rw [KF_bit hp hni ho, who_bit (by omega) ho]
    by_cases c : o < v.p
    · rw [show (cHS v.de 0 (-1) w W2 R2 (nwr v.mn) (nwr v.kn) kN tO (h + 1)).1 o = kC v w 0 (-1) (7 * h + o) from hh.kn h (Nat.le_refl _) o c]
      exact ⟨fun q => ⟨c, q.2⟩, fun q => ⟨by omega, q.2⟩⟩
    · refine ⟨fun q => ?_, fun q => absurd q.1 c⟩
      have := (hzi.2 o (by omega) q.1).1
      rw [show (cHS v.de 0 (-1) w W2 R2 (nwr v.mn) (nwr v.kn) kN tO (h + 1)).1 o = 0 from this, b_0] at q
      exact absurd q.2 (by decide)
  · refine b_eq fun o ho => ?_
    rw [OF_bit hp hni ho]
    show bt (F_X1_whoKnows _ ni) o = true ↔ _
    rw [who_bit (by omega) ho]
    by_cases c : o < v.p
    · cases d : bt v.de o with
      | true =>
        rw [show (cHS v.de 0 (-1) w W2 R2 (nwr v.mn) (nwr v.kn) kN tO (h + 1)).2.1 o = _ from hh.td o c d, b_and, b_nt _ (by omega), Bool.and_eq_true, Bool.not_eq_true']
        exact ⟨fun q => ⟨c, rfl, q.2⟩, fun q => ⟨by omega, q.2.2⟩⟩
      | false =>
        rw [show (cHS v.de 0 (-1) w W2 R2 (nwr v.mn) (nwr v.kn) kN tO (h + 1)).2.1 o = 0 from hh.tn o c d, b_0]
        exact ⟨fun q => absurd q.2 (by decide), fun q => absurd q.2.1 (by decide)⟩
    · refine ⟨fun q => ?_, fun q => absurd q.1 c⟩
      have := (hzi.2 o (by omega) q.1).2
      rw [show (cHS v.de 0 (-1) w W2 R2 (nwr v.mn) (nwr v.kn) kN tO (h + 1)).2.1 o = 0 from this, b_0] at q
      exact absurd q.2 (by decide)
end
/-- the least hours from here on -/
noncomputable def frN (v : VV) (w : PP) (ni h : Nat) : Int32 := lsV (ZP v.p (h + 1) v.de (TPw v ni) (cAw v ni) (F_X7_state (KF v w ni h) (OF v w ni h)) (v.mu ni)) (25 - (h + 1))
noncomputable def frA (np : Nat) (V : Nat → VV) (P : Nat → PP) (x y z : Int32) : Int32 := if F_X12_isPlan np x = 0 then -1 else if F_X11_isNews y = 0 then -1 else if F_X12_isIn z 0 23 = 0 then -1 else frN (V (P (tN x)).v) (P (tN x)) (tN y) (tN z)
theorem frA_no {np : Nat} {V : Nat → VV} {P : Nat → PP} {x y z : Int32} (h : x < 0 ∨ nI np ≤ x) : frA np V P x y z = -1 := if_pos (rpl_no h)
theorem i23_at {z : Int32} (h : ¬ F_X12_isIn z 0 23 = 0) : z = nI (tN z) ∧ tN z ≤ 23 := by
  obtain ⟨a, b, c⟩ := bn_at (lo := 0) (hi := 23) (by omega) (in_at h).1 (in_at h).2
  exact ⟨a, c⟩
theorem fr_cls {np i P0 Q : Nat} {V : Nat → VV} {P : Nat → PP} {W R kN tO cA pw ct nw nx fS fO fM fC : Nat → Int32} {yd zp zd zt zm zi0 zi1 rc rp y z : Int32} {yu : Int64} (hnp : np ≤ 12) (hi : i < np) (ok : VOK (V (P i).v)) (nl : NLP (V (P i).v)) (hw : PWF (V (P i).v).p (P i)) (ho : ORD (P i)) (hpt : PWT pw) (hI : RI fS fM rc) : (F_X11_from1 (P i).c (V (P i).v).p (V (P i).v).de yd yu kN tO (P i).h (P i).k (P i).a (P i).b (P i).o W R (nwr (V (P i).v).kn) (nwr (V (P i).v).mn) (kx (V (P i).v)) (V (P i).v).mu (V (P i).v).mn P0 Q zp zd zt zm zi0 zi1 cA pw ct nw nx fS fO fM fC rc rp y z).1 = frA np V P (nI i) y z := by
  have hp := ok.1
  unfold F_X11_from1 frA
  rw [if_neg (isp_ok hnp hi), tN_nI (show i < 2 ^ 31 by omega)]
  by_cases c1 : F_X11_isNews y = 0
  · rw [if_pos c1, if_pos c1]
  · rw [if_neg c1, if_neg c1]
    by_cases c2 : F_X11_isHourOrFirst z = 0
    · rw [if_pos c2]
      have c3 : F_X12_isIn z 0 23 = 0 := Classical.byContradiction fun q => by
        obtain ⟨e1, e2⟩ := i23_at q
        rw [e1] at c2
        exact (by decide +kernel : ∀ k : Nat, k < 24 → ¬ F_X11_isHourOrFirst (nI k) = 0) (tN z) (by omega) c2
      rw [if_pos c3]
    · rw [if_neg c2]
      obtain ⟨ez, hz⟩ := hfz_at c2
      by_cases c3 : z = 24
      · rw [if_pos c3, if_pos (show F_X12_isIn z 0 23 = 0 by rw [c3]; decide)]
      · have h23 : tN z ≤ 23 := by
          have : ¬ tN z = 24 := fun q => c3 (ez.trans (congrArg nI q))
          omega
        have c4 : ¬ F_X12_isIn z 0 23 = 0 := by rw [ez]; exact i23_ok h23
        rw [if_neg c3, if_neg c4]
        have y4 := (hn_at c1).2
        obtain ⟨e1, e2⟩ := cls_sets (kN := kN) (tO := tO) (W := W) (R := R) (ni := tN y) (h := tN z) ok nl nl.2 hw ho y4 (by omega)
        have gd := fr_gd (v := V (P i).v) (w := P i) (ni := tN y) (h := tN z) hp y4
        have h := lh_val (P := P0) (Q := Q) (zd := (V (P i).v).de) (zt := TPw (V (P i).v) (tN y)) (zm := (V (P i).v).mu (tN y)) (cA := L1_X7_prepare (V (P i).v).p (V (P i).v).mn (kx (V (P i).v)) (tN y) cA 24) (now := nw) (nx := nx) (O := fO) (C := fC) (rp := rp) hpt hp (show tN z + 1 ≤ 24 by omega) gd.1 gd.2.1 gd.2.2.1 hI
        have h2 := h.iff (P2 := ZP (V (P i).v).p (tN z + 1) (V (P i).v).de (TPw (V (P i).v) (tN y)) (cAw (V (P i).v) (tN y)) (F_X7_state (KF (V (P i).v) (P i) (tN y) (tN z)) (OF (V (P i).v) (P i) (tN y) (tN z))) ((V (P i).v).mu (tN y))) fun n hn => zp_cong (by omega) (fun h a a1 a2 a3 => pr_any hp a1 a2 a3) (by omega)
        refine Eq.trans ?_ (lsV_eq h2)
        rw [← e1, ← e2]
theorem fr_sets {rA rB rF rT rW rO pH pK pA pB pW pR rD rK rS aF oN fR tW : Nat → Int32} {lc pe i v9 cn ni h : Nat} (hni : ni < 4) {o : Nat} (ho : o < 32) : ∀ k : Nat, k ≤ 7 → (bt (L1_X12_from1 rA rB rF rT rW rO pH pK pA pB pW pR rD rK rS aF oN fR tW lc pe i v9 cn ni h 0 0 k).2 o = true ↔ o < k ∧ bt ((F_X12_carryAll rA rB rF rT rW rO pH pK pA pB pW pR rD rK rS aF oN fR tW lc pe i v9 cn).2.2.1 (7 * h + o)) ni = true) ∧ (bt (L1_X12_from1 rA rB rF rT rW rO pH pK pA pB pW pR rD rK rS aF oN fR tW lc pe i v9 cn ni h 0 0 k).1 o = true ↔ o < k ∧ bt ((F_X12_carryAll rA rB rF rT rW rO pH pK pA pB pW pR rD rK rS aF oN fR tW lc pe i v9 cn).2.2.2.1 (7 * h + o)) ni = true)
  | 0, _ => by
    have z : ∀ q : Prop, bt (0 : Int32) o = true ↔ o < 0 ∧ q := fun q => by rw [b_0]; exact ⟨fun q => absurd q (by decide), fun q => absurd q.1 (Nat.not_lt_zero _)⟩
    exact ⟨z _, z _⟩
  | k + 1, hk => by
    obtain ⟨i1, i2⟩ := fr_sets (rA := rA) (rB := rB) (rF := rF) (rT := rT) (rW := rW) (rO := rO) (pH := pH) (pK := pK) (pA := pA) (pB := pB) (pW := pW) (pR := pR) (rD := rD) (rK := rK) (rS := rS) (aF := aF) (oN := oN) (fR := fR) (tW := tW) (lc := lc) (pe := pe) (i := i) (v9 := v9) (cn := cn) (ni := ni) (h := h) hni ho k (by omega)
    have e : L1_X12_from1 rA rB rF rT rW rO pH pK pA pB pW pR rD rK rS aF oN fR tW lc pe i v9 cn ni h 0 0 (k + 1) = L1_X12_from1s rA rB rF rT rW rO pH pK pA pB pW pR rD rK rS aF oN fR tW lc pe i v9 cn ni h k (L1_X12_from1 rA rB rF rT rW rO pH pK pA pB pW pR rD rK rS aF oN fR tW lc pe i v9 cn ni h 0 0 k).1 (L1_X12_from1 rA rB rF rT rW rO pH pK pA pB pW pR rD rK rS aF oN fR tW lc pe i v9 cn ni h 0 0 k).2 := rfl
    rw [e]
    generalize L1_X12_from1 rA rB rF rT rW rO pH pK pA pB pW pR rD rK rS aF oN fR tW lc pe i v9 cn ni h 0 0 k = u at i1 i2 ⊢
    unfold L1_X12_from1s
    try dsimp only
    have st : ∀ (q : Nat → Int32) (x : Int32), (bt x o = true ↔ o < k ∧ bt (q (7 * h + o)) ni = true) → (bt (x ||| (((q (7 * h + k) >>> (nI ni &&& 31)) &&& (1 : Int32)) <<< (nI k &&& 31))) o = true ↔ o < k + 1 ∧ bt (q (7 * h + o)) ni = true) := fun q x hx => by
      rw [fr_bit (by omega) (by omega) ho, hx]
      constructor
      · rintro (z | ⟨z1, z2⟩)
        · exact ⟨by omega, z.2⟩
        · rw [z1]; exact ⟨by omega, z2⟩
      · rintro ⟨z1, z2⟩
        by_cases c : o = k
        · exact Or.inr ⟨c, by rw [← c]; exact z2⟩
        · exact Or.inl ⟨by omega, z2⟩
    exact ⟨st _ _ i1, st _ _ i2⟩
section
variable {F G : Nat → Nat → Int32} {v : VV} {w : PP} {ni h i : Nat} {aF oN fR tW W R : Nat → Int32}
theorem ref_hiv (ok : VOK v) (ow : OWB v) (nl : NLP v) (hr : RP1 F w.v v) (hw : PWF v.p w) (g : PRW G i w) (hz : h ≤ 24) : HIV v h (cHS v.de 0 (-1) w (vdT (kx v) w) (rcT (kx v) w) (nwr v.mn) (nwr v.kn) (fun _ => 0) (fun _ => 0)) (F_X12_carryAll (F 12) (F 13) (F 14) (F 15) (F 16) (F 17) (G 23) (G 24) (G 25) (G 26) W R (F 8) (F 9) (F 11) aF oN fR tW v.lc v.p i w.v w.c).2.2.1 (F_X12_carryAll (F 12) (F 13) (F 14) (F 15) (F 16) (F 17) (G 23) (G 24) (G 25) (G 26) W R (F 8) (F 9) (F 11) aF oN fR tW v.lc v.p i w.v w.c).2.2.2.1 :=
  carry_agreeZ hz ok nl hw (fun _ _ => ⟨rfl, rfl⟩) (fun _ ht => refJ ok ow nl hr hw g ht) (fun k hk => ⟨(g k hk).1, (g k hk).2.1, (g k hk).2.2.1⟩) hr.2.2.1 (fun j hj => (hr.2.2.2.1 j hj).1) (fun j hj => (hr.2.2.2.1 j hj).2.2)
theorem ref_sets (ok : VOK v) (ow : OWB v) (nl : NLP v) (hr : RP1 F w.v v) (hw : PWF v.p w) (g : PRW G i w) (hni : ni < 4) (hz : h ≤ 24) : (L1_X12_from1 (F 12) (F 13) (F 14) (F 15) (F 16) (F 17) (G 23) (G 24) (G 25) (G 26) W R (F 8) (F 9) (F 11) aF oN fR tW v.lc v.p i w.v w.c ni h 0 0 v.p).2 = KF v w ni h ∧ ((L1_X12_from1 (F 12) (F 13) (F 14) (F 15) (F 16) (F 17) (G 23) (G 24) (G 25) (G 26) W R (F 8) (F 9) (F 11) aF oN fR tW v.lc v.p i w.v w.c ni h 0 0 v.p).1 &&& F 8 w.v) &&& ((L1_X12_from1 (F 12) (F 13) (F 14) (F 15) (F 16) (F 17) (G 23) (G 24) (G 25) (G 26) W R (F 8) (F 9) (F 11) aF oN fR tW v.lc v.p i w.v w.c ni h 0 0 v.p).2 ^^^ (-1 : Int32)) = OF v w ni h := by
  have hp := ok.1
  have hh := ref_hiv (W := W) (R := R) (aF := aF) (oN := oN) (fR := fR) (tW := tW) ok ow nl hr hw g hz
  have hc := cls_hiv (kN := fun _ => 0) (tO := fun _ => 0) (W := vdT (kx v) w) (R := rcT (kx v) w) ok nl hw (fun _ _ => ⟨rfl, rfl⟩) hz
  have hA : ∀ x : Nat, x < v.p → (F_X12_carryAll (F 12) (F 13) (F 14) (F 15) (F 16) (F 17) (G 23) (G 24) (G 25) (G 26) W R (F 8) (F 9) (F 11) aF oN fR tW v.lc v.p i w.v w.c).2.2.1 (7 * h + x) = kC v w 0 (-1) (7 * h + x) := fun x hx => (hh.kn h (Nat.le_refl _) x hx).symm.trans (hc.kn h (Nat.le_refl _) x hx)
  have hO : ∀ x : Nat, x < v.p → bt v.de x = true → (F_X12_carryAll (F 12) (F 13) (F 14) (F 15) (F 16) (F 17) (G 23) (G 24) (G 25) (G 26) W R (F 8) (F 9) (F 11) aF oN fR tW v.lc v.p i w.v w.c).2.2.2.1 (7 * h + x) &&& ((F_X12_carryAll (F 12) (F 13) (F 14) (F 15) (F 16) (F 17) (G 23) (G 24) (G 25) (G 26) W R (F 8) (F 9) (F 11) aF oN fR tW v.lc v.p i w.v w.c).2.2.1 (7 * h + x) ^^^ (-1 : Int32)) = oC v w (7 * h + x) &&& (kC v w 0 (-1) (7 * h + x) ^^^ (-1 : Int32)) := fun x hx hd => (hh.td x hx hd).symm.trans (hc.td x hx hd)
  have hs := fun o ho => fr_sets (rA := F 12) (rB := F 13) (rF := F 14) (rT := F 15) (rW := F 16) (rO := F 17) (pH := G 23) (pK := G 24) (pA := G 25) (pB := G 26) (pW := W) (pR := R) (rD := F 8) (rK := F 9) (rS := F 11) (aF := aF) (oN := oN) (fR := fR) (tW := tW) (lc := v.lc) (pe := v.p) (i := i) (v9 := w.v) (cn := w.c) (ni := ni) (h := h) hni (o := o) ho v.p hp
  generalize L1_X12_from1 (F 12) (F 13) (F 14) (F 15) (F 16) (F 17) (G 23) (G 24) (G 25) (G 26) W R (F 8) (F 9) (F 11) aF oN fR tW v.lc v.p i w.v w.c ni h 0 0 v.p = u at hs ⊢
  have e1 : u.2 = KF v w ni h := b_eq fun o ho => by
    rw [(hs o ho).1, KF_bit hp hni ho]
    refine and_congr_right fun c => ?_
    rw [hA o c]
  refine ⟨e1, b_eq fun o ho => ?_⟩
  rw [e1, b_and, b_and, b_nt _ ho, Bool.and_eq_true, Bool.and_eq_true, Bool.not_eq_true', (hs o ho).2, OF_bit hp hni ho, show F 8 w.v = v.de from hr.2.2.1]
  constructor
  · rintro ⟨⟨⟨c, q1⟩, q2⟩, q3⟩
    have hk : bt (kC v w 0 (-1) (7 * h + o)) ni = false := by
      cases z : bt (kC v w 0 (-1) (7 * h + o)) ni with
      | false => rfl
      | true =>
        rw [(KF_bit hp hni ho).mpr ⟨c, z⟩] at q3
        cases q3
    have hb := congrArg (fun x => bt x ni) (hO o c q2)
    try dsimp only at hb
    rw [hA o c, b_and, b_and, b_nt _ (show ni < 32 by omega), hk, q1] at hb
    have hb2 : bt (oC v w (7 * h + o)) ni = true := by
      cases z : bt (oC v w (7 * h + o)) ni with
      | true => rfl
      | false => rw [z] at hb; exact absurd hb (by decide)
    exact ⟨c, q2, hb2, hk⟩
  · rintro ⟨c, q2, q4, hk⟩
    have hb := congrArg (fun x => bt x ni) (hO o c q2)
    try dsimp only at hb
    rw [hA o c, b_and, b_and, b_nt _ (show ni < 32 by omega), hk, q4] at hb
    refine ⟨⟨⟨c, ?_⟩, q2⟩, ?_⟩
    · cases z : bt ((F_X12_carryAll (F 12) (F 13) (F 14) (F 15) (F 16) (F 17) (G 23) (G 24) (G 25) (G 26) W R (F 8) (F 9) (F 11) aF oN fR tW v.lc v.p i w.v w.c).2.2.2.1 (7 * h + o)) ni with
      | true => rfl
      | false => rw [z] at hb; exact absurd hb (by decide)
    · cases z : bt (KF v w ni h) o with
      | false => rfl
      | true =>
        have := ((KF_bit hp hni ho).mp z).2
        rw [hk] at this; cases this
theorem fr_refM {rM gN : Nat → Int32} (ok : VOK v) (ow : OWB v) (nl : NLP v) (hr : RP1 F w.v v) (hw : PWF v.p w) (g : PRW G i w) (hM : rM (4 * w.v + ni) = v.mu ni) (hni : ni < 4) (hz : h ≤ 23) : (F_X12_from1 (F 12) (F 13) (F 14) (F 15) (F 16) (F 17) (G 23) (G 24) (G 25) (G 26) W R (F 8) (F 9) (F 11) aF oN fR tW rM gN v.lc v.p i w.v w.c ni h).1 = frN v w ni h := by
  have hp := ok.1
  obtain ⟨e1, e2⟩ := ref_sets (ni := ni) (h := h) (W := W) (R := R) (aF := aF) (oN := oN) (fR := fR) (tW := tW) ok ow nl hr hw g hni (by omega)
  have gd := fr_gd (v := v) (w := w) (ni := ni) (h := h) hp hni
  have hMm : MEMO v.p v.de (TPw v ni) (v.mu ni) (cAw v ni) (F_X12_ask gN) := fun h k o a1 a2 hg => by
    have b1 := (s7_num hg.1).2
    have b2 := (s7_num hg.2.1).2
    exact Or.inl (ask_0 425984 _ (by omega))
  have q := (nd_MV (zm := v.mu ni) hp (rD := F 8) (i := w.v) hr.2.2.1 (chh_of (i := w.v) (nw := ni) ok ow hr) (25 - (h + 1)) (by omega) _ _ _ gd hMm).1
  rw [show 25 - (25 - (h + 1)) = h + 1 by omega] at q
  have q2 := mv_lsa (by omega) q
  have q3 := q2.iff (P2 := ZP v.p (h + 1) v.de (TPw v ni) (cAw v ni) (F_X7_state (KF v w ni h) (OF v w ni h)) (v.mu ni)) fun n _ => (zp_dn hp (fun i hi q => ((tp_bit ok hi).mp q).1) ⟨_, _, gd.1, gd.2.1, gd.2.2.1, rfl⟩).symm
  unfold F_X12_from1
  rw [e1] at e2
  rw [e1, e2, hM, (hr.2.2.2.1 ni hni).2.2]
  refine Eq.trans ?_ (lsV_eq q3)
  split <;> rfl
end
theorem fr_bad {np : Nat} {V : Nat → VV} {P : Nat → PP} {x y z : Int32} (h : F_X12_isPlan np x = 0 ∨ F_X12_isNews y = 0 ∨ F_X12_isIn z 0 23 = 0) : frA np V P x y z = -1 := by
  unfold frA
  by_cases c1 : F_X12_isPlan np x = 0
  · rw [if_pos c1]
  · rw [if_neg c1]
    by_cases c2 : F_X11_isNews y = 0
    · rw [if_pos c2]
    · rw [if_neg c2]
      by_cases c3 : F_X12_isIn z 0 23 = 0
      · rw [if_pos c3]
      · rcases h with h | h | h
        · exact absurd h c1
        · exact absurd h c2
        · exact absurd h c3
theorem fr0_val {np : Nat} {x y z : Int32} : F_X12_from0 np x y z = -1 := by
  unfold F_X12_from0
  (repeat' split) <;> rfl

/-! what is known after an hour: one row, whichever side carries -/
def kC (v : VV) (w : PP) (lo : Int64) (wo : Int32) : Nat → Int32 := (F_X12_carry (fun _ => v.de) v.kn v.mn w.h w.k w.a (vdT (kx v) w) (rcT (kx v) w) (fun _ => 0) (fun _ => 0) (fun _ => 0) (fun _ => 0) v.p 0 0 w.c lo wo).1
section
variable {v : VV} {w : PP} {lo : Int64} {wo : Int32} {W R W' R' kN tO : Nat → Int32} {z x : Nat}
theorem kC_at (ok : VOK v) (nl : NLP v) (hw : PWF v.p w) (hJ : JD v w W R) (hz : z ≤ 24) (hx : x < v.p) : (cHS v.de lo wo w W R (nwr v.mn) (nwr v.kn) kN tO (z + 1)).1 x = kC v w lo wo (7 * z + x) :=
  (carry_agree (i := 0) (v9 := 0) (rD := fun _ => v.de) (rK := v.kn) (rS := v.mn) (G23 := w.h) (G24 := w.k) (G25 := w.a) (lo := lo) (wo := wo) (kN := kN) (tO := tO) (aF := fun _ => 0) (oN := fun _ => 0) (fR := fun _ => 0) (tW := fun _ => 0) ok nl hw hJ (W' := vdT (kx v) w) (R' := rcT (kx v) w) (fun _ _ => ⟨rfl, rfl⟩) (fun k _ => by rw [show 40 * 0 + k = k by omega]; exact ⟨rfl, rfl, rfl⟩) rfl (fun j _ => by rw [show 4 * 0 + j = j by omega]) (fun j _ => by rw [show 4 * 0 + j = j by omega])).kn z hz x hx
theorem cls_carry (ok : VOK v) (nl : NLP v) (hw : PWF v.p w) (ho : ORD w) (hJ : JD v w W R) (hz : z ≤ 24) (hx : x < v.p) : (F_X1_carry kN tO w.c v.de (nI z) lo wo w.h w.k w.a w.b w.o W R (nwr v.kn) (nwr v.mn)).1 x = kC v w lo wo (7 * z + x) := by
  rw [carry_eq hw ho hz]
  exact kC_at ok nl hw hJ hz hx
theorem ref_carry {rD rK rS G23 G24 G25 aF oN fR tW : Nat → Int32} {i v9 : Nat} (ok : VOK v) (nl : NLP v) (hw : PWF v.p w) (hJ' : JD v w W' R') (g : PRW4 G23 G24 G25 i w) (hD : rD v9 = v.de) (hK : ∀ j : Nat, j < 4 → rK (4 * v9 + j) = v.kn j) (hS : ∀ j : Nat, j < 4 → rS (4 * v9 + j) = v.mn j) (hz : z ≤ 24) (hx : x < v.p) : (F_X12_carry rD rK rS G23 G24 G25 W' R' aF oN fR tW v.p i v9 w.c lo wo).1 (7 * z + x) = kC v w lo wo (7 * z + x) := by
  have h1 := (carry_agree (lo := lo) (wo := wo) (kN := fun _ => 0) (tO := fun _ => 0) (aF := aF) (oN := oN) (fR := fR) (tW := tW) (W := vdT (kx v) w) (R := rcT (kx v) w) ok nl hw (fun _ _ => ⟨rfl, rfl⟩) hJ' g hD hK hS).kn z hz x hx
  exact h1.symm.trans (kC_at ok nl hw (fun _ _ => ⟨rfl, rfl⟩) hz hx)
theorem cls_all (ok : VOK v) (nl : NLP v) (hw : PWF v.p w) (ho : ORD w) (hz : z ≤ 24) (hx : x < v.p) : (F_X1_carryAll kN tO w.c v.de (nI z) w.h w.k w.a w.b w.o W R (nwr v.kn) (nwr v.mn) (kx v)).1 x = kC v w 0 (-1) (7 * z + x) :=
  cls_carry ok nl hw ho (fun _ ht => clsJ hw ho ht) hz hx
theorem ref_all {F G : Nat → Nat → Int32} {aF oN fR tW : Nat → Int32} {i : Nat} (ok : VOK v) (ow : OWB v) (nl : NLP v) (hr : RP1 F w.v v) (hw : PWF v.p w) (g : PRW G i w) (hz : z ≤ 24) (hx : x < v.p) : (F_X12_carryAll (F 12) (F 13) (F 14) (F 15) (F 16) (F 17) (G 23) (G 24) (G 25) (G 26) W R (F 8) (F 9) (F 11) aF oN fR tW v.lc v.p i w.v w.c).2.2.1 (7 * z + x) = kC v w 0 (-1) (7 * z + x) :=
  ref_carry ok nl hw (fun _ ht => refJ ok ow nl hr hw g ht) (fun k hk => ⟨(g k hk).1, (g k hk).2.1, (g k hk).2.2.1⟩) hr.2.2.1 (fun j hj => (hr.2.2.2.1 j hj).1) (fun j hj => (hr.2.2.2.1 j hj).2.2) hz hx
end
/-! known -/
/-! together -/

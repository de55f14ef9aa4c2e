/-! what is known after an hour: one row, whichever side carries -/
def kC (v : VV) (w : PP) (lo : Int64) (wo : Int32) : Nat → Int32 := (F_X12_carry (fun _ => v.de) v.kn v.mn w.h w.k w.a (vdT (kx v) w) (rcT (kx v) w) (fun _ => 0) (fun _ => 0) (fun _ => 0) (fun _ => 0) v.p 0 0 w.c lo wo).1
section
variable {v : VV} {w : PP} {lo : Int64} {wo : Int32} {W R W' R' kN tO : Nat → Int32} {z x : Nat}
end
/-! known -/
/-! together -/

/-! what a line more spares: the same on both sides -/
/-- whether there is a line between two -/
def hlw (w : VV) (a b : Nat) : Int32 := F_X10_hasLineBetween w.lc w.L (nI a) (nI b)
/-! over all couples -/
section
variable {hl f : Nat → Nat → Int32} {p : Nat} {s0 : Int32 × Int32 × Int32}
end
section
variable {w : VV} {ni : Nat} {pw : Nat → Int32}
end
/-! the reference, with one couple more -/
section
variable {F : Nat → Nat → Int32} {i ni a b : Nat} {w : VV} {gN : Nat → Int32}
end

/-! found: the same rows on both sides -/
section
variable {p ho : Nat} {zd zt zm : Int32} {cA : Nat → Int32} {s0 : Int32}
end
section
variable {F : Nat → Nat → Int32} {i ni h : Nat} {w : VV} {gN gR : Nat → Int32} {ka kb : Int32}
end

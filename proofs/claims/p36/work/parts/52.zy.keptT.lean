/-! kept: both sides go on alike -/
section
variable {F : Nat → Nat → Int32} {i h : Nat} {w : VV} {kn : Int32} {fy fb : Nat → Int32}
end
/-! the answer -/

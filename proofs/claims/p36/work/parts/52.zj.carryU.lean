/-! news carried: the reference -/
section
variable {rD rS aF oN G24 G25 R : Nat → Int32} {v9 i j t : Nat} {wo : Int32} {w : PP}
end

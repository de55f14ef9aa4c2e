/-! the reference's lowest row -/
section
variable {p : Nat} {zd zt zm an : Int32} {cA rA rB rD rF rO rT rW : Nat → Int32} {i lc h left : Nat} {kw oz : Int32}
abbrev MCf (rA rB rF rT rW rO : Nat → Int32) (lc i : Nat) : Nat → Nat → Nat → Int32 := fun h a b => F_X12_mayCall rA rB rF rT rW rO lc i a b (nI h)
end

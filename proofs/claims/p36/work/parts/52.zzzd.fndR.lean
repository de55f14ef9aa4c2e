def zb (x : Int32) : Int32 := if x = 0 then 0 else 1
theorem zb_z {x : Int32} : narrow .boolean (.int (zb x)) = .int (zb x) := by
  unfold zb
  split <;> rfl
abbrev LWR : Type := Int32 × (Nat → Int32) × (Nat → Int32) × Int32 × Int32
abbrev LWT : Type := Nat → Int32 → Int32 → (Nat → Int32) → (Nat → Int32) → Int32 → Int32 → LWR
theorem zb_0 : zb 0 = 0 := if_pos rfl
theorem zb_1 : zb 1 = 1 := if_neg (by decide)
section
variable {am : Int32} {an : Int32} {h : Nat} {i : Nat} {kw : Int32} {lc : Nat} {lf : Int32} {oz : Int32} {pe : Nat} {rA : Nat → Int32} {rB : Nat → Int32} {rD : Nat → Int32} {rF : Nat → Int32} {rO : Nat → Int32} {rT : Nat → Int32} {rW : Nat → Int32} {bu ca : Int32} {fj : Nat} {R : LWT}
end

/-! kept: both sides go on alike -/
theorem shr_b1 {x : Int32} {b : Nat} (hb : b < 32) : (x >>> (nI b &&& 31)) &&& 1 = 1 ↔ bt x b = true := by
  have e : bt (x >>> (nI b &&& 31)) 0 = bt x b := by rw [b_sshr b hb x (by omega), if_pos (by omega), Nat.add_zero]
  constructor
  · intro h
    have h1 : bt ((x >>> (nI b &&& 31)) &&& 1) 0 = true := by rw [h, b_one 0 (by omega)]; rfl
    rw [b_and, e] at h1
    cases q : bt x b with
    | true => rfl
    | false => rw [q] at h1; cases h1
  · intro h
    refine b_ext fun i hi => ?_
    rw [b_and, b_one i hi]
    by_cases z : i = 0
    · subst z; rw [e, h]; rfl
    · rw [show decide (i = 0) = false from decide_eq_false z, Bool.and_false]
section
variable {F : Nat → Nat → Int32} {i h : Nat} {w : VV} {kn : Int32} {fy fb : Nat → Int32}
end
/-! the answer -/

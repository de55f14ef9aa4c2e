/-! who hold together, on both sides: those whom one comes to from the first one along lines both may call by -/
/-- a line both may call by, from one to another one -/
def tw (L : Nat → Int32) (j a b : Nat) : Prop := b1 (L (j * 6 + 4)) = 0 ∧ ((lnA L j = a ∧ lnB L j = b) ∨ (lnB L j = a ∧ lnA L j = b))
theorem b_orsh {s : Int32} {c o : Nat} (hc : c < 32) (ho : o < 32) : bt (s ||| ((1 : Int32) <<< (nI c &&& 31))) o = true ↔ bt s o = true ∨ o = c := by
  rw [b_or, b_sh1 hc ho, Bool.or_eq_true, decide_eq_true_eq]
section
variable {L rA rB rO : Nat → Int32} {lc p i : Nat}
end

/-! whom one may call in an hour: the class's row bit by bit, and the reference's look at the lines -/
/-- lines are one-way or not -/
def OWB (w : VV) : Prop := ∀ j : Nat, j < w.lc → w.L (j * 6 + 4) = 0 ∨ w.L (j * 6 + 4) = 1

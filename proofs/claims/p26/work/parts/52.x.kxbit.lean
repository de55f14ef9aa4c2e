/-! whom one may call in an hour: the class's row bit by bit, and the reference's look at the lines -/
theorem works_agree {L rF rT rW : Nat → Int32} {k j : Nat} {h : Int32} (eF : rF k = L (j * 6 + 2)) (eT : rT k = L (j * 6 + 3)) (eW : rW k = L (j * 6 + 5)) : F_X12_works rF rT rW k h = F_X10_works L j h := by
  unfold F_X12_works F_X10_works F_X10_isOpen
  rw [eF, eT, eW]
  by_cases h1 : h < L (j * 6 + 2)
  · rw [if_pos h1, if_pos h1, if_pos rfl]
  · rw [if_neg h1, if_neg h1]
    by_cases h2 : L (j * 6 + 3) < h
    · rw [if_pos h2, if_pos h2, if_pos rfl]
    · rw [if_neg h2, if_neg h2, if_neg (show ¬ ((1 : Int32) = 0) by decide)]
/-- lines are one-way or not -/
def OWB (w : VV) : Prop := ∀ j : Nat, j < w.lc → w.L (j * 6 + 4) = 0 ∨ w.L (j * 6 + 4) = 1

/-! whom one may call in an hour: the class's row bit by bit, and the reference's look at the lines -/
theorem bt_hasv {x : Int32} {b : Nat} (hb : b < 32) : ¬ hasv x (nI b) = 0 ↔ bt x b = true := by
  have e : bt (x >>> (nI b &&& 31)) 0 = bt x b := by rw [b_sshr b hb x (by omega), if_pos (by omega), Nat.add_zero]
  unfold hasv
  by_cases h : ((x >>> (nI b &&& 31)) &&& 1) = 0
  · rw [if_pos h]
    refine ⟨fun q => absurd rfl q, fun q => ?_⟩
    have h1 : bt ((x >>> (nI b &&& 31)) &&& 1) 0 = true := by rw [b_and, e, q, b_one 0 (by omega)]; rfl
    rw [h, b_0] at h1
    cases h1
  · rw [if_neg h]
    exact ⟨fun _ => by rw [← e]; exact b_and1 h, fun _ => by decide⟩
/-- lines are one-way or not -/
def OWB (w : VV) : Prop := ∀ j : Nat, j < w.lc → w.L (j * 6 + 4) = 0 ∨ w.L (j * 6 + 4) = 1

def mn2 (x y : Int32) : Int32 := if y < x then y else x
def mx2 (x y : Int32) : Int32 := if x < y then y else x
def PQ (p q a b : Nat) : Prop := (a = p ∧ b = q) ∨ (a = q ∧ b = p)
theorem PQ.rfl' {p q : Nat} : PQ p q p q := Or.inl ⟨rfl, rfl⟩
theorem PQ.tr {p q a b c d : Nat} (h : PQ p q a b) (h2 : PQ a b c d) : PQ p q c d := by
  unfold PQ at *
  omega
theorem PQ.ne {p q a b : Nat} (hn : ¬ p = q) (h : PQ p q a b) : ¬ a = b := by
  unfold PQ at h
  omega
theorem nt_ne {Γ : Nat → Nat} {u v a b : Nat} (hu : Γ u = a) (hv : Γ v = b) (h : ¬ a = b) : ¬ u = v := fun q => h (by rw [← hu, ← hv, q])
theorem nI_sub5 {j : Nat} (h : j ≤ 5) : (5 : Int32) - nI j = nI (5 - j) := (show (5 : Int32) - nI j = nI 5 - nI j from rfl).trans (nI_subN h)

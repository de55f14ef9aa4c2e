theorem row_nn {g : GG} {Γ : Nat → Nat} {H : Heap} {q t n lo hi : Nat} {f : Nat → Int32} (hT : HT g TS0 Γ H) (hq : Γ q = t) (hA : AT g 1 n q f H) (ht : TS0.1 t = .inr (1, n, (0, .ofNat lo, .ofNat hi))) (h31 : t ≠ 0 ∧ hi < 2 ^ 31) : ∀ j : Nat, j < n → f j = nI (tN (f j)) ∧ tN (f j) ≤ hi := fun j hj => by
  obtain ⟨f', h1, h2⟩ := h_ints (Or.inr (Or.inl rfl)) hT (by rw [hq]; exact h31.1) ((congrArg TS0.1 hq).trans ht)
  have h3 := (AT_fun hA h1 hj).2
  obtain ⟨k, h4, -, h5⟩ := avi_nn (h2 j hj)
  rw [h3]
  obtain ⟨q1, q2⟩ := tN_of (k := k) (by have := h31.2; omega) h4
  exact ⟨q1, by rw [q2]; exact h5⟩

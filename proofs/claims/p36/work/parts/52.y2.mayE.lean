theorem owb_of {g : GG} {Γ : Nat → Nat} {H : Heap} {m0 nv : Nat} {B : Nat → Nat} {F : Nat → Nat → Int32} {V : Nat → VV} (hT : HT g TS0 Γ H) (tm : Γ m0 = 60) (hB : RRVB g m0 B F H) (hV : RPW nv V F) (hnv : nv ≤ 10) : ∀ i : Nat, i < nv → OWB (V i) := fun i hi j hj => by
  obtain ⟨e, -⟩ := hB.tag hT tm (k := 17) (by decide)
  obtain ⟨f, h1, h2⟩ := h_ints (g := g) (k := 3) (n := 132) (a := vi 0 1) (by decide) hT (by rw [e]; decide) ((congrArg TS0.1 e).trans rfl)
  obtain ⟨ok, hr⟩ := hV i hi
  have hlc := ok.2.1
  have h3 := (AT_fun (show AT g 3 132 (B 17) (F 17) H from (hB 17 (by decide)).2) h1 (j := 12 * i + j) (by omega)).2
  obtain ⟨k, h4, -, h5⟩ := avi_nn (h2 (12 * i + j) (by omega))
  have e17 := (hr.2.2.2.2.1 j hj).2.2.2.2.2
  rw [← e17, h3, h4]
  have : k = 0 ∨ k = 1 := by omega
  rcases this with rfl | rfl
  · exact Or.inl rfl
  · exact Or.inr rfl

/-! fits: tales against what is known -/
theorem who_bit {kN : Nat → Int32} {nw o : Nat} (hn : nw < 32) (ho : o < 32) : bt (F_X1_whoKnows kN nw) o = true ↔ o < 7 ∧ bt (kN o) nw = true := by
  have e : ∀ m : Nat, m ≤ 7 → (bt (L1_X1_peopleOfNews kN nw 0 m) o = true ↔ o < m ∧ bt (kN o) nw = true) := by
    intro m
    induction m with
    | zero => intro _; show bt 0 o = true ↔ _; rw [b_0]; exact ⟨fun q => (by cases q), fun q => absurd q.1 (Nat.not_lt_zero _)⟩
    | succ m ih =>
      intro hm
      rw [L1_X1_peopleOfNews, L1_X1_peopleOfNewss]
      by_cases c : hasv (kN m) (nI nw) = 0
      · rw [if_pos c, ih (by omega)]
        refine ⟨fun q => ⟨by omega, q.2⟩, fun q => ⟨?_, q.2⟩⟩
        by_cases z : o = m
        · subst z; have := (hvb_0 hn).mp c; rw [this] at q; exact absurd q.2 (by decide)
        · omega
      · rw [if_neg c, b_orsh (by omega) ho, ih (by omega)]
        constructor
        · intro q
          rcases q with q | q
          · exact ⟨by omega, q.2⟩
          · subst q; exact ⟨Nat.lt_succ_self _, (bt_hasv hn).mp c⟩
        · intro q
          by_cases z : o = m
          · exact Or.inr z
          · exact Or.inl ⟨by omega, q.2⟩
  exact e 7 (Nat.le_refl _)
/-! the answer -/

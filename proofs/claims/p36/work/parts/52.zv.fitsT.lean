/-! fits: tales against what is known -/
theorem whose_bit {p nw o : Nat} {h : Int32} {ta : Nat → Int32} (hp : p ≤ 7) (ho : o < 32) : bt (F_X10_whoseTaleIs p nw h ta) o = true ↔ o < p ∧ F_X10_taleOf nw o ta = h := by
  have e : ∀ m : Nat, m ≤ p → (bt (L1_X10_whoseTaleIs nw h ta 0 m) o = true ↔ o < m ∧ F_X10_taleOf nw o ta = h) := by
    intro m
    induction m with
    | zero => intro _; show bt 0 o = true ↔ _; rw [b_0]; exact ⟨fun q => (by cases q), fun q => absurd q.1 (Nat.not_lt_zero _)⟩
    | succ m ih =>
      intro hm
      rw [L1_X10_whoseTaleIs, L1_X10_whoseTaleIss]
      by_cases c : F_X10_taleOf nw m ta = h
      · rw [if_pos c, b_orsh (by omega) ho, ih (by omega)]
        constructor
        · intro q
          rcases q with q | q
          · exact ⟨by omega, q.2⟩
          · subst q; exact ⟨Nat.lt_succ_self _, c⟩
        · intro q
          by_cases z : o = m
          · exact Or.inr z
          · exact Or.inl ⟨by omega, q.2⟩
      · rw [if_neg c, ih (by omega)]
        refine ⟨fun q => ⟨by omega, q.2⟩, fun q => ⟨?_, q.2⟩⟩
        by_cases z : o = m
        · subst z; exact absurd q.2 c
        · omega
  exact e p (Nat.le_refl _)
/-! the answer -/

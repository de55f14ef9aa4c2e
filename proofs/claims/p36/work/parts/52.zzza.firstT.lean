/-! the lowest row of an hour with a property -/
/-- the lowest one among the rows that go on as r0 does up to fj -/
def First (p : Nat) (ch : Nat → Int32) (cond : (Nat → Nat) → Prop) (fj : Nat) (r0 r : Nat → Nat) : Prop := RWp p ch p r ∧ (∀ a : Nat, a < fj → r a = r0 a) ∧ cond r ∧ ∀ a : Nat, fj ≤ a → a < p → ∀ r2 : Nat → Nat, RWp p ch p r2 → (∀ b : Nat, b < a → r2 b = r b) → r2 a < r a → ¬ cond r2
theorem First.uniq {p : Nat} {ch : Nat → Int32} {cond : (Nat → Nat) → Prop} {r0 r r2 : Nat → Nat} (h : First p ch cond 0 r0 r) (h2 : First p ch cond 0 r0 r2) : ∀ a : Nat, a < p → r a = r2 a := by
  have key : ∀ n a : Nat, a < n → a < p → r a = r2 a := by
    intro n
    induction n with
    | zero => intro a ha; exact absurd ha (Nat.not_lt_zero _)
    | succ n ih =>
      intro a ha hp
      rcases Nat.lt_trichotomy (r a) (r2 a) with z | z | z
      · exact absurd h.2.2.1 (h2.2.2.2 a (Nat.zero_le _) hp r h.1 (fun b hb => ih b (by omega) (by omega)) z)
      · exact z
      · exact absurd h2.2.2.1 (h.2.2.2 a (Nat.zero_le _) hp r2 h2.1 (fun b hb => (ih b (by omega) (by omega)).symm) z)
  exact fun a ha => key p a ha ha
abbrev MQX (p : Nat) (ch : Nat → Int32) (Q : Int32 → Prop) : (Nat → Nat) → Prop := fun r => rmax p ch r ∧ Q (rset r p)
section
variable {p fj : Nat} {C : Nat → Int32} {R : FAT} {r : Nat → Nat} {Q : Int32 → Prop}
end
/-! the rows of an hour: the first set with a property -/
theorem RWp.ch {p : Nat} {ch ch2 : Nat → Int32} {r : Nat → Nat} (h : RWp p ch p r) (e : ∀ a : Nat, a < p → ch2 a = ch a) : RWp p ch2 p r := fun a ha => by
  rw [e a ha]; exact h a ha

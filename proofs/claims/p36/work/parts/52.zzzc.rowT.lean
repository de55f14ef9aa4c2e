section
variable {p ho : Nat} {zd zt zm : Int32} {cA cB pw : Nat → Int32} {s0 : Int32}
end
/-- whom one calls in the k-th of the lowest rows by which a news is done in the least hours -/
def FDV (w : VV) (ni h : Nat) (kk : Int32) (o : Nat) (v : Int32) : Prop := (∃ (N : Nat) (y : Int32) (r : Nat → Nat), h + N ≤ 25 ∧ lsN w ni h = nI N ∧ tN kk < N ∧ PTH w.p h w.de (TPw w ni) (w.mu ni) (cAw w ni) (F_X7_state (w.kn ni) 0) N (tN kk) y r ∧ v = nI (r o)) ∨ ((∀ N : Nat, h + N ≤ 25 → lsN w ni h = nI N → ¬ tN kk < N) ∧ v = -1)
theorem FDV.uniq {w : VV} {ni h o : Nat} {kk v v2 : Int32} (ho : o < w.p) (a : FDV w ni h kk o v) (b : FDV w ni h kk o v2) : v = v2 := by
  rcases a with ⟨N, y, r, a1, a2, a3, a4, a5⟩ | ⟨a1, a2⟩
  · rcases b with ⟨N2, y2, r2, b1, b2, b3, b4, b5⟩ | ⟨b1, _⟩
    · have e := (nI_eq (a := N) (b := N2) (by omega) (by omega)).mp (a2.symm.trans b2)
      subst e
      rw [a5, b5, (pth_uniq _ _ _ _ _ a4 b4).2 o ho]
    · exact absurd a3 (b1 N a1 a2)
  · rcases b with ⟨N2, y2, r2, b1, b2, b3, b4, b5⟩ | ⟨_, b2⟩
    · exact absurd b3 (a1 N2 b1 b2)
    · rw [a2, b2]

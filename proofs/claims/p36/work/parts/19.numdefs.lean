/-- a number: its digits, its value, where it ends -/
def dg (n : Nat) (f : Nat → Int32) (x : Int32) : Int32 := inv3 (atv n f x) 48 57
def nk2 (n : Nat) (f : Nat → Int32) (k : Nat) : Nat := if dg n f (nI (skn n f k + 1)) = 0 then skn n f k else skn n f k + 1
def nval (n : Nat) (f : Nat → Int32) (k : Nat) : Int32 := if dg n f (nI (skn n f k + 1)) = 0 then atv n f (nI (skn n f k)) - 48 else (atv n f (nI (skn n f k)) - 48) * 10 + atv n f (nI (skn n f k + 1)) - 48
abbrev numNo (n : Nat) (f : Nat → Int32) (k : Nat) : Prop := skn n f k = k ∨ dg n f (nI (skn n f k)) = 0
abbrev numBad (v lo hi un : Int32) : Prop := v < lo ∨ hi < v ∨ v = un
def numr (n : Nat) (f : Nat → Int32) (k : Nat) (lo hi un : Int32) : Int32 := if numNo n f k then -1 else if numBad (nval n f k) lo hi un then -1 else nval n f k
def nump (n : Nat) (f : Nat → Int32) (k : Nat) (lo hi un : Int32) : Nat := if numNo n f k then skn n f k else if numBad (nval n f k) lo hi un then nk2 n f k else nk2 n f k + 1
theorem dg_lt {n k : Nat} {f : Nat → Int32} (hn : n ≤ 400) (hk : k < 2 ^ 31) (h : ¬ dg n f (nI k) = 0) : k < n := by
  refine Nat.not_le.mp (fun q => h ?_)
  rw [dg, atv, if_pos (Or.inr ((nI_leI (by omega) hk).mpr q))]
  decide
theorem num_no {n : Nat} {f : Nat → Int32} {k : Nat} {lo hi un : Int32} (h : numNo n f k) : numr n f k lo hi un = -1 ∧ nump n f k lo hi un = skn n f k := ⟨if_pos h, if_pos h⟩
theorem num_bad {n : Nat} {f : Nat → Int32} {k : Nat} {lo hi un : Int32} (h : ¬ numNo n f k) (h2 : numBad (nval n f k) lo hi un) : numr n f k lo hi un = -1 ∧ nump n f k lo hi un = nk2 n f k := ⟨by rw [numr, if_neg h, if_pos h2], by rw [nump, if_neg h, if_pos h2]⟩
theorem num_ok {n : Nat} {f : Nat → Int32} {k : Nat} {lo hi un : Int32} (h : ¬ numNo n f k) (h2 : ¬ numBad (nval n f k) lo hi un) : numr n f k lo hi un = nval n f k ∧ nump n f k lo hi un = nk2 n f k + 1 := ⟨by rw [numr, if_neg h, if_neg h2], by rw [nump, if_neg h, if_neg h2]⟩
theorem nk2_le {n k : Nat} {f : Nat → Int32} (hn : n ≤ 400) (hk : k ≤ n) (h : ¬ numNo n f k) : nk2 n f k + 1 ≤ n := by
  have h1 := skn_le (f := f) hk
  have h2 := dg_lt hn (by omega) (fun q => h (Or.inr q))
  unfold nk2
  split
  · omega
  · rename_i h3
    have := dg_lt hn (by omega) h3
    omega
theorem nump_le {n k : Nat} {f : Nat → Int32} {lo hi un : Int32} (hn : n ≤ 400) (hk : k ≤ n) : nump n f k lo hi un ≤ n := by
  have h1 := skn_le (f := f) hk
  unfold nump
  split
  · omega
  · rename_i h
    have := nk2_le hn hk h
    split <;> omega
/-- a number that was read lies in its bounds -/
theorem numr_in {n k : Nat} {f : Nat → Int32} {lo hi un : Int32} (h : ¬ numr n f k lo hi un = -1) : ¬ numr n f k lo hi un < lo ∧ ¬ hi < numr n f k lo hi un ∧ ¬ numr n f k lo hi un = un := by
  by_cases h1 : numNo n f k
  · exact absurd (num_no h1).1 h
  · by_cases h2 : numBad (nval n f k) lo hi un
    · exact absurd (num_bad h1 h2).1 h
    · rw [(num_ok h1 h2).1]
      exact ⟨fun q => h2 (Or.inl q), fun q => h2 (Or.inr (Or.inl q)), fun q => h2 (Or.inr (Or.inr q))⟩

theorem i32_34 {x : Int32} (h : ¬ 3 < x) : ¬ 4 ≤ x := fun q => h (Int32.lt_of_lt_of_le (by decide) q)
theorem neg_lt0 {x : Int32} (h : ¬ x < 0) : ¬ x = -1 := fun e => h (by rw [e]; decide)
/-- a bit of news, as the class reads it: the person, the news, whether, where it ends, the row -/
abbrev nP (n : Nat) (f : Nat → Int32) (k : Nat) (pe : Int32) : Int32 := numr n f (k + 1) 0 (pe - 1) (-1)
abbrev nPk (n : Nat) (f : Nat → Int32) (k : Nat) (pe : Int32) : Nat := nump n f (k + 1) 0 (pe - 1) (-1)
abbrev nN (n : Nat) (f : Nat → Int32) (k : Nat) (pe : Int32) : Int32 := numr n f (nPk n f k pe) 0 3 (-1)
abbrev nNk (n : Nat) (f : Nat → Int32) (k : Nat) (pe : Int32) : Nat := nump n f (nPk n f k pe) 0 3 (-1)
def nOk (n : Nat) (f : Nat → Int32) (k : Nat) (pe : Int32) : Int32 := if nP n f k pe = -1 then 0 else if nN n f k pe < 0 then 0 else 1
def nK (n : Nat) (f : Nat → Int32) (k : Nat) (pe : Int32) : Nat := if nP n f k pe = -1 then nPk n f k pe else nNk n f k pe
def nG (n : Nat) (f : Nat → Int32) (k : Nat) (pe : Int32) (r : Nat → Int32) : Nat → Int32 := if nP n f k pe = -1 then r else if nN n f k pe < 0 then r else upd r (nN n f k pe).toNatClampNeg (r (nN n f k pe).toNatClampNeg ||| ((1 : Int32) <<< (nP n f k pe &&& 31)))
theorem nw_0 {n : Nat} {f : Nat → Int32} {k : Nat} {pe : Int32} {r : Nat → Int32} (h : nP n f k pe = -1) : nOk n f k pe = 0 ∧ nK n f k pe = nPk n f k pe ∧ nG n f k pe r = r := ⟨if_pos h, if_pos h, if_pos h⟩
theorem nw_1 {n : Nat} {f : Nat → Int32} {k : Nat} {pe : Int32} {r : Nat → Int32} (h : ¬ nP n f k pe = -1) (h2 : nN n f k pe < 0) : nOk n f k pe = 0 ∧ nK n f k pe = nNk n f k pe ∧ nG n f k pe r = r := ⟨by rw [nOk, if_neg h, if_pos h2], if_neg h, by rw [nG, if_neg h, if_pos h2]⟩
theorem nw_2 {n : Nat} {f : Nat → Int32} {k : Nat} {pe : Int32} {r : Nat → Int32} (h : ¬ nP n f k pe = -1) (h2 : ¬ nN n f k pe < 0) : nOk n f k pe = 1 ∧ nK n f k pe = nNk n f k pe ∧ nG n f k pe r = upd r (nN n f k pe).toNatClampNeg (r (nN n f k pe).toNatClampNeg ||| ((1 : Int32) <<< (nP n f k pe &&& 31))) := ⟨by rw [nOk, if_neg h, if_neg h2], if_neg h, by rw [nG, if_neg h, if_neg h2]⟩
theorem nump_ge {n k : Nat} {f : Nat → Int32} {lo hi un : Int32} (hk : k ≤ n) : k ≤ nump n f k lo hi un := by
  have h1 := skn_le (f := f) hk
  unfold nump nk2
  split
  · omega
  · split
    · split <;> omega
    · split <;> omega
theorem nK_ge {n k : Nat} {f : Nat → Int32} {pe : Int32} (hn : n ≤ 400) (hk : k < n) : k ≤ nK n f k pe := by
  have h1 : k + 1 ≤ nPk n f k pe := nump_ge (by omega)
  have h3 : nPk n f k pe ≤ n := nump_le hn (by omega)
  have h2 : nPk n f k pe ≤ nNk n f k pe := nump_ge h3
  unfold nK; split <;> omega
theorem nK_le {n k : Nat} {f : Nat → Int32} {pe : Int32} (hn : n ≤ 400) (hk : k < n) : nK n f k pe ≤ n := by
  have h1 : nPk n f k pe ≤ n := nump_le hn (by omega)
  have h2 : nNk n f k pe ≤ n := nump_le hn h1
  unfold nK; split <;> assumption
/-- a line, as the class reads it -/
abbrev lA (n : Nat) (f : Nat → Int32) (k : Nat) (pe : Int32) : Int32 := numr n f (k + 1) 0 (pe - 1) (-1)
abbrev lAk (n : Nat) (f : Nat → Int32) (k : Nat) (pe : Int32) : Nat := nump n f (k + 1) 0 (pe - 1) (-1)
abbrev lB (n : Nat) (f : Nat → Int32) (k : Nat) (pe : Int32) : Int32 := numr n f (lAk n f k pe) 0 (pe - 1) (lA n f k pe)
abbrev lBk (n : Nat) (f : Nat → Int32) (k : Nat) (pe : Int32) : Nat := nump n f (lAk n f k pe) 0 (pe - 1) (lA n f k pe)
abbrev lF (n : Nat) (f : Nat → Int32) (k : Nat) (pe : Int32) : Int32 := numr n f (lBk n f k pe) 1 24 (-1)
abbrev lFk (n : Nat) (f : Nat → Int32) (k : Nat) (pe : Int32) : Nat := nump n f (lBk n f k pe) 1 24 (-1)
abbrev lT (n : Nat) (f : Nat → Int32) (k : Nat) (pe : Int32) : Int32 := numr n f (lFk n f k pe) (lF n f k pe) 24 (-1)
abbrev lTk (n : Nat) (f : Nat → Int32) (k : Nat) (pe : Int32) : Nat := nump n f (lFk n f k pe) (lF n f k pe) 24 (-1)
/-- how far a line is read: 0 no room, 1 .. 4 a number fails, 5 all is well -/
def lJ (n : Nat) (f : Nat → Int32) (k : Nat) (pe : Int32) (c : Nat) : Nat := if 12 ≤ c then 0 else if lA n f k pe = -1 then 1 else if lB n f k pe = -1 then 2 else if lF n f k pe = -1 then 3 else if lT n f k pe = -1 then 4 else 5
def lOk (n : Nat) (f : Nat → Int32) (k : Nat) (pe : Int32) (c : Nat) : Int32 := if lJ n f k pe c = 5 then 1 else 0
def lK (n : Nat) (f : Nat → Int32) (k : Nat) (pe : Int32) (c : Nat) : Nat := match lJ n f k pe c with
  | 0 => k
  | 1 => lAk n f k pe
  | 2 => lBk n f k pe
  | 3 => lFk n f k pe
  | _ => lTk n f k pe
def lC (n : Nat) (f : Nat → Int32) (k : Nat) (pe : Int32) (c : Nat) : Nat := if lJ n f k pe c = 5 then c + 1 else c
def ln6 (L : Nat → Int32) (c : Nat) (a b f t o : Int32) : Nat → Int32 := upd (upd (upd (upd (upd (upd L (c * 6 + 0) a) (c * 6 + 1) b) (c * 6 + 2) f) (c * 6 + 3) t) (c * 6 + 4) o) (c * 6 + 5) (-1)
def lL (n : Nat) (f : Nat → Int32) (k : Nat) (pe : Int32) (c : Nat) (o : Int32) (L : Nat → Int32) : Nat → Int32 := if lJ n f k pe c = 5 then ln6 L c (lA n f k pe) (lB n f k pe) (lF n f k pe) (lT n f k pe) o else L
theorem lJ_n {n : Nat} {f : Nat → Int32} {k : Nat} {pe : Int32} {c : Nat} {o : Int32} {L : Nat → Int32} {j : Nat} (h : lJ n f k pe c = j) (hj : j ≠ 5) : lOk n f k pe c = 0 ∧ lC n f k pe c = c ∧ lL n f k pe c o L = L := by
  have h5 : ¬ lJ n f k pe c = 5 := by omega
  exact ⟨if_neg h5, if_neg h5, if_neg h5⟩
theorem lJ_0 {n : Nat} {f : Nat → Int32} {k : Nat} {pe : Int32} {c : Nat} (h : 12 ≤ c) : lJ n f k pe c = 0 ∧ lK n f k pe c = k := by
  have e : lJ n f k pe c = 0 := if_pos h
  exact ⟨e, by simp only [lK, e]⟩
theorem lJ_1 {n : Nat} {f : Nat → Int32} {k : Nat} {pe : Int32} {c : Nat} (h : ¬ 12 ≤ c) (h1 : lA n f k pe = -1) : lJ n f k pe c = 1 ∧ lK n f k pe c = lAk n f k pe := by
  have e : lJ n f k pe c = 1 := by rw [lJ, if_neg h, if_pos h1]
  exact ⟨e, by simp only [lK, e]⟩
theorem lJ_2 {n : Nat} {f : Nat → Int32} {k : Nat} {pe : Int32} {c : Nat} (h : ¬ 12 ≤ c) (h1 : ¬ lA n f k pe = -1) (h2 : lB n f k pe = -1) : lJ n f k pe c = 2 ∧ lK n f k pe c = lBk n f k pe := by
  have e : lJ n f k pe c = 2 := by rw [lJ, if_neg h, if_neg h1, if_pos h2]
  exact ⟨e, by simp only [lK, e]⟩
theorem lJ_3 {n : Nat} {f : Nat → Int32} {k : Nat} {pe : Int32} {c : Nat} (h : ¬ 12 ≤ c) (h1 : ¬ lA n f k pe = -1) (h2 : ¬ lB n f k pe = -1) (h3 : lF n f k pe = -1) : lJ n f k pe c = 3 ∧ lK n f k pe c = lFk n f k pe := by
  have e : lJ n f k pe c = 3 := by rw [lJ, if_neg h, if_neg h1, if_neg h2, if_pos h3]
  exact ⟨e, by simp only [lK, e]⟩
theorem lJ_4 {n : Nat} {f : Nat → Int32} {k : Nat} {pe : Int32} {c : Nat} (h : ¬ 12 ≤ c) (h1 : ¬ lA n f k pe = -1) (h2 : ¬ lB n f k pe = -1) (h3 : ¬ lF n f k pe = -1) (h4 : lT n f k pe = -1) : lJ n f k pe c = 4 ∧ lK n f k pe c = lTk n f k pe := by
  have e : lJ n f k pe c = 4 := by rw [lJ, if_neg h, if_neg h1, if_neg h2, if_neg h3, if_pos h4]
  exact ⟨e, by simp only [lK, e]⟩
theorem lJ_5 {n : Nat} {f : Nat → Int32} {k : Nat} {pe : Int32} {c : Nat} {o : Int32} {L : Nat → Int32} (h : ¬ 12 ≤ c) (h1 : ¬ lA n f k pe = -1) (h2 : ¬ lB n f k pe = -1) (h3 : ¬ lF n f k pe = -1) (h4 : ¬ lT n f k pe = -1) : (lJ n f k pe c = 5 ∧ lK n f k pe c = lTk n f k pe) ∧ lOk n f k pe c = 1 ∧ lC n f k pe c = c + 1 ∧ lL n f k pe c o L = ln6 L c (lA n f k pe) (lB n f k pe) (lF n f k pe) (lT n f k pe) o := by
  have e : lJ n f k pe c = 5 := by rw [lJ, if_neg h, if_neg h1, if_neg h2, if_neg h3, if_neg h4]
  exact ⟨⟨e, by simp only [lK, e]⟩, if_pos e, if_pos e, if_pos e⟩
theorem lK_le {n k c : Nat} {f : Nat → Int32} {pe : Int32} (hn : n ≤ 400) (hk : k < n) : lK n f k pe c ≤ n := by
  have h1 : lAk n f k pe ≤ n := nump_le hn (by omega)
  have h2 : lBk n f k pe ≤ n := nump_le hn h1
  have h3 : lFk n f k pe ≤ n := nump_le hn h2
  have h4 : lTk n f k pe ≤ n := nump_le hn h3
  unfold lK
  split
  · omega
  all_goals assumption
theorem lK_ge {n k c : Nat} {f : Nat → Int32} {pe : Int32} (hn : n ≤ 400) (hk : k < n) : k ≤ lK n f k pe c := by
  have h1 : lAk n f k pe ≤ n := nump_le hn (by omega)
  have h2 : lBk n f k pe ≤ n := nump_le hn h1
  have h3 : lFk n f k pe ≤ n := nump_le hn h2
  have g1 : k + 1 ≤ lAk n f k pe := nump_ge (by omega)
  have g2 : lAk n f k pe ≤ lBk n f k pe := nump_ge h1
  have g3 : lBk n f k pe ≤ lFk n f k pe := nump_ge h2
  have g4 : lFk n f k pe ≤ lTk n f k pe := nump_ge h3
  unfold lK
  split <;> omega
theorem lC_le {n k c : Nat} {f : Nat → Int32} {pe : Int32} (hc : c ≤ 12) : lC n f k pe c ≤ 12 := by
  unfold lC
  split
  · rename_i h
    by_cases h2 : 12 ≤ c
    · rw [(lJ_0 h2).1] at h; omega
    · omega
  · exact hc
/-- a deaf one -/
def dfOk (n : Nat) (f : Nat → Int32) (k : Nat) (pe : Int32) : Int32 := if nP n f k pe = -1 then 0 else 1
def dD (n : Nat) (f : Nat → Int32) (k : Nat) (pe : Int32) (d : Int32) : Int32 := if nP n f k pe = -1 then d else d ||| ((1 : Int32) <<< (nP n f k pe &&& 31))
def rmL (c : Nat) : Int32 := if c < 12 then 1 else 0
theorem rmL_1 {c : Nat} (h : ¬ rmL c = 0) : c < 12 := by
  by_cases q : c < 12
  · exact q
  · rw [rmL, if_neg q] at h; exact absurd rfl h
theorem rmL_0 {c : Nat} (h : rmL c = 0) : 12 ≤ c := by
  by_cases q : c < 12
  · rw [rmL, if_pos q] at h; exact absurd h (by decide)
  · omega
/-- what a text has told so far: the place, the lines, the deaf ones, who knows, must, must not know, the lines' row -/
abbrev TXT : Type := Nat × Nat × Int32 × (Nat → Int32) × (Nat → Int32) × (Nat → Int32) × (Nat → Int32)
def stm (n : Nat) (f : Nat → Int32) (pe : Int32) (S : TXT) : Int32 × TXT :=
  if atv n f (nI S.1) = 108 then (lOk n f S.1 pe S.2.1, (lK n f S.1 pe S.2.1, lC n f S.1 pe S.2.1, S.2.2.1, S.2.2.2.1, S.2.2.2.2.1, S.2.2.2.2.2.1, lL n f S.1 pe S.2.1 0 S.2.2.2.2.2.2))
  else if atv n f (nI S.1) = 111 then (lOk n f S.1 pe S.2.1, (lK n f S.1 pe S.2.1, lC n f S.1 pe S.2.1, S.2.2.1, S.2.2.2.1, S.2.2.2.2.1, S.2.2.2.2.2.1, lL n f S.1 pe S.2.1 1 S.2.2.2.2.2.2))
  else if atv n f (nI S.1) = 107 then (nOk n f S.1 pe, (nK n f S.1 pe, S.2.1, S.2.2.1, nG n f S.1 pe S.2.2.2.1, S.2.2.2.2.1, S.2.2.2.2.2.1, S.2.2.2.2.2.2))
  else if atv n f (nI S.1) = 119 then (nOk n f S.1 pe, (nK n f S.1 pe, S.2.1, S.2.2.1, S.2.2.2.1, nG n f S.1 pe S.2.2.2.2.1, S.2.2.2.2.2.1, S.2.2.2.2.2.2))
  else if atv n f (nI S.1) = 115 then (nOk n f S.1 pe, (nK n f S.1 pe, S.2.1, S.2.2.1, S.2.2.2.1, S.2.2.2.2.1, nG n f S.1 pe S.2.2.2.2.2.1, S.2.2.2.2.2.2))
  else if atv n f (nI S.1) = 100 then (dfOk n f S.1 pe, (nPk n f S.1 pe, S.2.1, dD n f S.1 pe S.2.2.1, S.2.2.2.1, S.2.2.2.2.1, S.2.2.2.2.2.1, S.2.2.2.2.2.2))
  else (0, S)
theorem stm_l {n : Nat} {f : Nat → Int32} {pe : Int32} {S : TXT} (h : atv n f (nI S.1) = 108) : stm n f pe S = (lOk n f S.1 pe S.2.1, (lK n f S.1 pe S.2.1, lC n f S.1 pe S.2.1, S.2.2.1, S.2.2.2.1, S.2.2.2.2.1, S.2.2.2.2.2.1, lL n f S.1 pe S.2.1 0 S.2.2.2.2.2.2)) := by
  rw [stm, if_pos h]
theorem stm_o {n : Nat} {f : Nat → Int32} {pe : Int32} {S : TXT} (h : atv n f (nI S.1) = 111) : stm n f pe S = (lOk n f S.1 pe S.2.1, (lK n f S.1 pe S.2.1, lC n f S.1 pe S.2.1, S.2.2.1, S.2.2.2.1, S.2.2.2.2.1, S.2.2.2.2.2.1, lL n f S.1 pe S.2.1 1 S.2.2.2.2.2.2)) := by
  rw [stm, if_neg (by rw [h]; decide), if_pos h]
theorem stm_k {n : Nat} {f : Nat → Int32} {pe : Int32} {S : TXT} (h : atv n f (nI S.1) = 107) : stm n f pe S = (nOk n f S.1 pe, (nK n f S.1 pe, S.2.1, S.2.2.1, nG n f S.1 pe S.2.2.2.1, S.2.2.2.2.1, S.2.2.2.2.2.1, S.2.2.2.2.2.2)) := by
  rw [stm, if_neg (by rw [h]; decide), if_neg (by rw [h]; decide), if_pos h]
theorem stm_w {n : Nat} {f : Nat → Int32} {pe : Int32} {S : TXT} (h : atv n f (nI S.1) = 119) : stm n f pe S = (nOk n f S.1 pe, (nK n f S.1 pe, S.2.1, S.2.2.1, S.2.2.2.1, nG n f S.1 pe S.2.2.2.2.1, S.2.2.2.2.2.1, S.2.2.2.2.2.2)) := by
  rw [stm, if_neg (by rw [h]; decide), if_neg (by rw [h]; decide), if_neg (by rw [h]; decide), if_pos h]
theorem stm_s {n : Nat} {f : Nat → Int32} {pe : Int32} {S : TXT} (h : atv n f (nI S.1) = 115) : stm n f pe S = (nOk n f S.1 pe, (nK n f S.1 pe, S.2.1, S.2.2.1, S.2.2.2.1, S.2.2.2.2.1, nG n f S.1 pe S.2.2.2.2.2.1, S.2.2.2.2.2.2)) := by
  rw [stm, if_neg (by rw [h]; decide), if_neg (by rw [h]; decide), if_neg (by rw [h]; decide), if_neg (by rw [h]; decide), if_pos h]
theorem stm_d {n : Nat} {f : Nat → Int32} {pe : Int32} {S : TXT} (h : atv n f (nI S.1) = 100) : stm n f pe S = (dfOk n f S.1 pe, (nPk n f S.1 pe, S.2.1, dD n f S.1 pe S.2.2.1, S.2.2.2.1, S.2.2.2.2.1, S.2.2.2.2.2.1, S.2.2.2.2.2.2)) := by
  rw [stm, if_neg (by rw [h]; decide), if_neg (by rw [h]; decide), if_neg (by rw [h]; decide), if_neg (by rw [h]; decide), if_neg (by rw [h]; decide), if_pos h]
theorem stm_0 {n : Nat} {f : Nat → Int32} {pe : Int32} {S : TXT} (h1 : ¬ atv n f (nI S.1) = 108) (h2 : ¬ atv n f (nI S.1) = 111) (h3 : ¬ atv n f (nI S.1) = 107) (h4 : ¬ atv n f (nI S.1) = 119) (h5 : ¬ atv n f (nI S.1) = 115) (h6 : ¬ atv n f (nI S.1) = 100) : stm n f pe S = (0, S) := by
  rw [stm, if_neg h1, if_neg h2, if_neg h3, if_neg h4, if_neg h5, if_neg h6]
theorem at_lt {n k : Nat} {f : Nat → Int32} (hn : n ≤ 400) (hk : k < 2 ^ 31) (h : ¬ atv n f (nI k) = -1) : k < n := by
  rcases Nat.lt_or_ge k n with q | q
  · exact q
  · exact absurd (atv_no hn hk q) h
theorem stm_le {n : Nat} {f : Nat → Int32} {pe : Int32} {S : TXT} (hn : n ≤ 400) (hk : S.1 ≤ n) (hc : S.2.1 ≤ 12) : S.1 ≤ (stm n f pe S).2.1 ∧ (stm n f pe S).2.1 ≤ n ∧ (stm n f pe S).2.2.1 ≤ 12 := by
  have lt : ∀ x : Int32, atv n f (nI S.1) = x → ¬ x = -1 → S.1 < n := fun x e h => at_lt hn (by omega) (by rw [e]; exact h)
  by_cases h1 : atv n f (nI S.1) = 108
  · rw [stm_l h1]; exact ⟨lK_ge hn (lt _ h1 (by decide)), lK_le hn (lt _ h1 (by decide)), lC_le hc⟩
  by_cases h2 : atv n f (nI S.1) = 111
  · rw [stm_o h2]; exact ⟨lK_ge hn (lt _ h2 (by decide)), lK_le hn (lt _ h2 (by decide)), lC_le hc⟩
  by_cases h3 : atv n f (nI S.1) = 107
  · rw [stm_k h3]; exact ⟨nK_ge hn (lt _ h3 (by decide)), nK_le hn (lt _ h3 (by decide)), hc⟩
  by_cases h4 : atv n f (nI S.1) = 119
  · rw [stm_w h4]; exact ⟨nK_ge hn (lt _ h4 (by decide)), nK_le hn (lt _ h4 (by decide)), hc⟩
  by_cases h5 : atv n f (nI S.1) = 115
  · rw [stm_s h5]; exact ⟨nK_ge hn (lt _ h5 (by decide)), nK_le hn (lt _ h5 (by decide)), hc⟩
  by_cases h6 : atv n f (nI S.1) = 100
  · rw [stm_d h6]; have q := lt _ h6 (by decide); exact ⟨Nat.le_trans (Nat.le_succ _) (nump_ge (by omega)), nump_le hn (by omega), hc⟩
  rw [stm_0 h1 h2 h3 h4 h5 h6]; exact ⟨Nat.le_refl _, hk, hc⟩
/-- the statements behind the people, one behind the other -/
def rdl (n : Nat) (f : Nat → Int32) (pe : Int32) : Nat → TXT → Int32 × TXT
  | 0, S => (-1, S)
  | m + 1, S => if n ≤ S.1 then (-1, S) else if ¬ atv n f (nI S.1) = 59 then (nI S.1, S) else
    if (stm n f pe (skn n f (S.1 + 1), S.2)).1 = 0 then (nI (stm n f pe (skn n f (S.1 + 1), S.2)).2.1, (stm n f pe (skn n f (S.1 + 1), S.2)).2)
    else rdl n f pe m (skn n f (stm n f pe (skn n f (S.1 + 1), S.2)).2.1, (stm n f pe (skn n f (S.1 + 1), S.2)).2.2)
abbrev TXS0 (k : Nat) (L : Nat → Int32) : TXT := (k, 0, 0, fun _ => 0, fun _ => 0, fun _ => 0, L)
/-- the whole text: the fault, the people, what it tells -/
def rdx (n : Nat) (f : Nat → Int32) (L : Nat → Int32) : Int32 × Int32 × TXT :=
  if ¬ atv n f (nI (skn n f 0)) = 112 then (nI (skn n f 0), 0, TXS0 (skn n f 0) L)
  else if numr n f (skn n f 0 + 1) 1 7 (-1) = -1 then (nI (nump n f (skn n f 0 + 1) 1 7 (-1)), -1, TXS0 (nump n f (skn n f 0 + 1) 1 7 (-1)) L)
  else ((rdl n f (numr n f (skn n f 0 + 1) 1 7 (-1)) (n + 1) (TXS0 (skn n f (nump n f (skn n f 0 + 1) 1 7 (-1))) L)).1, numr n f (skn n f 0 + 1) 1 7 (-1), (rdl n f (numr n f (skn n f 0 + 1) 1 7 (-1)) (n + 1) (TXS0 (skn n f (nump n f (skn n f 0 + 1) 1 7 (-1))) L)).2)
theorem m_461 : (Cond.code yX10_hasRoomForLine prog_12_method_8_code 1 (Option.some FieldType.boolean)) ∈ BW := bw (tb2 221 rfl) (by decide +kernel)
theorem dX10_hasRoomForLine_0 : decode cX10_hasRoomForLine 0 = .ok (.aload_n 0, 1) := DX10_hasRoomForLine _ _ _ rfl
theorem dX10_hasRoomForLine_1 : decode cX10_hasRoomForLine 1 = .ok (.getfield 57, 3) := DX10_hasRoomForLine _ _ _ rfl
theorem dX10_hasRoomForLine_4 : decode cX10_hasRoomForLine 4 = .ok (.bipush 12, 2) := DX10_hasRoomForLine _ _ _ rfl
theorem dX10_hasRoomForLine_6 : decode cX10_hasRoomForLine 6 = .ok (.if_icmp .ge 7, 3) := DX10_hasRoomForLine _ _ _ rfl
theorem dX10_hasRoomForLine_13 : decode cX10_hasRoomForLine 13 = .ok (.iconst 0, 1) := DX10_hasRoomForLine _ _ _ rfl
theorem dX10_hasRoomForLine_14 : decode cX10_hasRoomForLine 14 = .ok (.ireturn, 1) := DX10_hasRoomForLine _ _ _ rfl
theorem dX10_hasRoomForLine_9 : decode cX10_hasRoomForLine 9 = .ok (.iconst 1, 1) := DX10_hasRoomForLine _ _ _ rfl
theorem dX10_hasRoomForLine_10 : decode cX10_hasRoomForLine 10 = .ok (.goto 4, 3) := DX10_hasRoomForLine _ _ _ rfl
theorem m_465 : (Cond.code yX10_appendLine prog_12_method_9_code 7 (Option.none : Option Jvm.ClassFile.FieldType)) ∈ BW := bw (tb2 225 rfl) (by decide +kernel)
theorem dX10_appendLine_0 : decode cX10_appendLine 0 = .ok (.aload_n 0, 1) := DX10_appendLine _ _ _ rfl
theorem m_466 : (Cond.methodLink "NoonValley$Valley" 84 yX10_hasRoomForLine) ∈ BW := bw (tb2 226 (by decide +kernel)) (by decide +kernel)
theorem m_459 : (Cond.instanceMethod yX10_hasRoomForLine) ∈ BW := bw (tb2 219 (by decide +kernel)) (by decide +kernel)
theorem m_460 : (Cond.selects "NoonValley$Valley" yX10_hasRoomForLine yX10_hasRoomForLine) ∈ BW := bw (tb2 220 (by decide +kernel)) (by decide +kernel)
theorem vX10_84 : LV RX10 84 RX10 yX10_hasRoomForLine cX10_hasRoomForLine 1 (some .boolean) 0 := ⟨m_466, m_459, m_460, m_11, m_461, rfl, by decide, by decide, by decide +kernel⟩
theorem dX10_appendLine_1 : decode cX10_appendLine 1 = .ok (.invokevirtual 84, 3) := DX10_appendLine _ _ _ rfl
theorem dX10_appendLine_4 : decode cX10_appendLine 4 = .ok (.ifCond .ne 4, 3) := DX10_appendLine _ _ _ rfl
theorem dX10_appendLine_8 : decode cX10_appendLine 8 = .ok (.aload_n 0, 1) := DX10_appendLine _ _ _ rfl
theorem dX10_appendLine_9 : decode cX10_appendLine 9 = .ok (.getfield 57, 3) := DX10_appendLine _ _ _ rfl
theorem dX10_appendLine_12 : decode cX10_appendLine 12 = .ok (.bipush 6, 2) := DX10_appendLine _ _ _ rfl
theorem dX10_appendLine_14 : decode cX10_appendLine 14 = .ok (.imul, 1) := DX10_appendLine _ _ _ rfl
theorem dX10_appendLine_15 : decode cX10_appendLine 15 = .ok (.istore 6, 2) := DX10_appendLine _ _ _ rfl
theorem dX10_appendLine_17 : decode cX10_appendLine 17 = .ok (.aload_n 0, 1) := DX10_appendLine _ _ _ rfl
theorem dX10_appendLine_18 : decode cX10_appendLine 18 = .ok (.getfield 30, 3) := DX10_appendLine _ _ _ rfl
theorem dX10_appendLine_21 : decode cX10_appendLine 21 = .ok (.iload 6, 2) := DX10_appendLine _ _ _ rfl
theorem dX10_appendLine_23 : decode cX10_appendLine 23 = .ok (.iconst 0, 1) := DX10_appendLine _ _ _ rfl
theorem dX10_appendLine_24 : decode cX10_appendLine 24 = .ok (.iadd, 1) := DX10_appendLine _ _ _ rfl
theorem dX10_appendLine_25 : decode cX10_appendLine 25 = .ok (.iload_n 1, 1) := DX10_appendLine _ _ _ rfl
theorem dX10_appendLine_26 : decode cX10_appendLine 26 = .ok (.iastore, 1) := DX10_appendLine _ _ _ rfl
theorem dX10_appendLine_27 : decode cX10_appendLine 27 = .ok (.aload_n 0, 1) := DX10_appendLine _ _ _ rfl
theorem dX10_appendLine_28 : decode cX10_appendLine 28 = .ok (.getfield 30, 3) := DX10_appendLine _ _ _ rfl
theorem dX10_appendLine_31 : decode cX10_appendLine 31 = .ok (.iload 6, 2) := DX10_appendLine _ _ _ rfl
theorem dX10_appendLine_33 : decode cX10_appendLine 33 = .ok (.iconst 1, 1) := DX10_appendLine _ _ _ rfl
theorem dX10_appendLine_34 : decode cX10_appendLine 34 = .ok (.iadd, 1) := DX10_appendLine _ _ _ rfl
theorem dX10_appendLine_35 : decode cX10_appendLine 35 = .ok (.iload_n 2, 1) := DX10_appendLine _ _ _ rfl
theorem dX10_appendLine_36 : decode cX10_appendLine 36 = .ok (.iastore, 1) := DX10_appendLine _ _ _ rfl
theorem dX10_appendLine_37 : decode cX10_appendLine 37 = .ok (.aload_n 0, 1) := DX10_appendLine _ _ _ rfl
theorem dX10_appendLine_38 : decode cX10_appendLine 38 = .ok (.getfield 30, 3) := DX10_appendLine _ _ _ rfl
theorem dX10_appendLine_41 : decode cX10_appendLine 41 = .ok (.iload 6, 2) := DX10_appendLine _ _ _ rfl
theorem dX10_appendLine_43 : decode cX10_appendLine 43 = .ok (.iconst 2, 1) := DX10_appendLine _ _ _ rfl
theorem dX10_appendLine_44 : decode cX10_appendLine 44 = .ok (.iadd, 1) := DX10_appendLine _ _ _ rfl
theorem dX10_appendLine_45 : decode cX10_appendLine 45 = .ok (.iload_n 3, 1) := DX10_appendLine _ _ _ rfl
theorem dX10_appendLine_46 : decode cX10_appendLine 46 = .ok (.iastore, 1) := DX10_appendLine _ _ _ rfl
theorem dX10_appendLine_47 : decode cX10_appendLine 47 = .ok (.aload_n 0, 1) := DX10_appendLine _ _ _ rfl
theorem dX10_appendLine_48 : decode cX10_appendLine 48 = .ok (.getfield 30, 3) := DX10_appendLine _ _ _ rfl
theorem dX10_appendLine_51 : decode cX10_appendLine 51 = .ok (.iload 6, 2) := DX10_appendLine _ _ _ rfl
theorem dX10_appendLine_53 : decode cX10_appendLine 53 = .ok (.iconst 3, 1) := DX10_appendLine _ _ _ rfl
theorem dX10_appendLine_54 : decode cX10_appendLine 54 = .ok (.iadd, 1) := DX10_appendLine _ _ _ rfl
theorem dX10_appendLine_55 : decode cX10_appendLine 55 = .ok (.iload 4, 2) := DX10_appendLine _ _ _ rfl
theorem dX10_appendLine_57 : decode cX10_appendLine 57 = .ok (.iastore, 1) := DX10_appendLine _ _ _ rfl
theorem dX10_appendLine_58 : decode cX10_appendLine 58 = .ok (.aload_n 0, 1) := DX10_appendLine _ _ _ rfl
theorem dX10_appendLine_59 : decode cX10_appendLine 59 = .ok (.getfield 30, 3) := DX10_appendLine _ _ _ rfl
theorem dX10_appendLine_62 : decode cX10_appendLine 62 = .ok (.iload 6, 2) := DX10_appendLine _ _ _ rfl
theorem dX10_appendLine_64 : decode cX10_appendLine 64 = .ok (.iconst 4, 1) := DX10_appendLine _ _ _ rfl
theorem dX10_appendLine_65 : decode cX10_appendLine 65 = .ok (.iadd, 1) := DX10_appendLine _ _ _ rfl
theorem dX10_appendLine_66 : decode cX10_appendLine 66 = .ok (.iload 5, 2) := DX10_appendLine _ _ _ rfl
theorem dX10_appendLine_68 : decode cX10_appendLine 68 = .ok (.iastore, 1) := DX10_appendLine _ _ _ rfl
theorem dX10_appendLine_69 : decode cX10_appendLine 69 = .ok (.aload_n 0, 1) := DX10_appendLine _ _ _ rfl
theorem dX10_appendLine_70 : decode cX10_appendLine 70 = .ok (.getfield 30, 3) := DX10_appendLine _ _ _ rfl
theorem dX10_appendLine_73 : decode cX10_appendLine 73 = .ok (.iload 6, 2) := DX10_appendLine _ _ _ rfl
theorem dX10_appendLine_75 : decode cX10_appendLine 75 = .ok (.iconst 5, 1) := DX10_appendLine _ _ _ rfl
theorem dX10_appendLine_76 : decode cX10_appendLine 76 = .ok (.iadd, 1) := DX10_appendLine _ _ _ rfl
theorem dX10_appendLine_77 : decode cX10_appendLine 77 = .ok (.iconst (-1), 1) := DX10_appendLine _ _ _ rfl
theorem dX10_appendLine_78 : decode cX10_appendLine 78 = .ok (.iastore, 1) := DX10_appendLine _ _ _ rfl
theorem dX10_appendLine_79 : decode cX10_appendLine 79 = .ok (.aload_n 0, 1) := DX10_appendLine _ _ _ rfl
theorem dX10_appendLine_80 : decode cX10_appendLine 80 = .ok (.dup, 1) := DX10_appendLine _ _ _ rfl
theorem dX10_appendLine_81 : decode cX10_appendLine 81 = .ok (.getfield 57, 3) := DX10_appendLine _ _ _ rfl
theorem dX10_appendLine_84 : decode cX10_appendLine 84 = .ok (.iconst 1, 1) := DX10_appendLine _ _ _ rfl
theorem dX10_appendLine_85 : decode cX10_appendLine 85 = .ok (.iadd, 1) := DX10_appendLine _ _ _ rfl
theorem dX10_appendLine_86 : decode cX10_appendLine 86 = .ok (.putfield 57, 3) := DX10_appendLine _ _ _ rfl
theorem dX10_appendLine_89 : decode cX10_appendLine 89 = .ok (.return_, 1) := DX10_appendLine _ _ _ rfl
theorem m_457 : (Cond.code yX8_lineOf prog_10_method_10_code 7 (Option.some FieldType.boolean)) ∈ BW := bw (tb2 217 rfl) (by decide +kernel)
theorem dX8_lineOf_0 : decode cX8_lineOf 0 = .ok (.aload_n 1, 1) := DX8_lineOf _ _ _ rfl
theorem m_458 : (Cond.methodLink "NoonValley$Tape" 72 yX10_hasRoomForLine) ∈ BW := bw (tb2 218 (by decide +kernel)) (by decide +kernel)
theorem vX8_72 : LV RX8 72 RX10 yX10_hasRoomForLine cX10_hasRoomForLine 1 (some .boolean) 0 := ⟨m_458, m_459, m_460, m_11, m_461, rfl, by decide, by decide, by decide +kernel⟩
theorem dX8_lineOf_1 : decode cX8_lineOf 1 = .ok (.invokevirtual 72, 3) := DX8_lineOf _ _ _ rfl
theorem dX8_lineOf_4 : decode cX8_lineOf 4 = .ok (.ifCond .ne 5, 3) := DX8_lineOf _ _ _ rfl
theorem dX8_lineOf_9 : decode cX8_lineOf 9 = .ok (.aload_n 0, 1) := DX8_lineOf _ _ _ rfl
theorem dX8_lineOf_10 : decode cX8_lineOf 10 = .ok (.dup, 1) := DX8_lineOf _ _ _ rfl
theorem dX8_lineOf_11 : decode cX8_lineOf 11 = .ok (.getfield 27, 3) := DX8_lineOf _ _ _ rfl
theorem dX8_lineOf_14 : decode cX8_lineOf 14 = .ok (.iconst 1, 1) := DX8_lineOf _ _ _ rfl
theorem dX8_lineOf_15 : decode cX8_lineOf 15 = .ok (.iadd, 1) := DX8_lineOf _ _ _ rfl
theorem dX8_lineOf_16 : decode cX8_lineOf 16 = .ok (.putfield 27, 3) := DX8_lineOf _ _ _ rfl
theorem dX8_lineOf_19 : decode cX8_lineOf 19 = .ok (.aload_n 0, 1) := DX8_lineOf _ _ _ rfl
theorem dX8_lineOf_20 : decode cX8_lineOf 20 = .ok (.iconst 0, 1) := DX8_lineOf _ _ _ rfl
theorem dX8_lineOf_21 : decode cX8_lineOf 21 = .ok (.aload_n 1, 1) := DX8_lineOf _ _ _ rfl
theorem dX8_lineOf_22 : decode cX8_lineOf 22 = .ok (.getfield 45, 3) := DX8_lineOf _ _ _ rfl
theorem dX8_lineOf_25 : decode cX8_lineOf 25 = .ok (.iconst 1, 1) := DX8_lineOf _ _ _ rfl
theorem dX8_lineOf_26 : decode cX8_lineOf 26 = .ok (.isub, 1) := DX8_lineOf _ _ _ rfl
theorem dX8_lineOf_27 : decode cX8_lineOf 27 = .ok (.iconst (-1), 1) := DX8_lineOf _ _ _ rfl
theorem dX8_lineOf_28 : decode cX8_lineOf 28 = .ok (.invokevirtual 41, 3) := DX8_lineOf _ _ _ rfl
theorem dX8_lineOf_31 : decode cX8_lineOf 31 = .ok (.istore_n 3, 1) := DX8_lineOf _ _ _ rfl
theorem dX8_lineOf_32 : decode cX8_lineOf 32 = .ok (.iload_n 3, 1) := DX8_lineOf _ _ _ rfl
theorem dX8_lineOf_33 : decode cX8_lineOf 33 = .ok (.iconst (-1), 1) := DX8_lineOf _ _ _ rfl
theorem dX8_lineOf_34 : decode cX8_lineOf 34 = .ok (.if_icmp .ne 5, 3) := DX8_lineOf _ _ _ rfl
theorem dX8_lineOf_39 : decode cX8_lineOf 39 = .ok (.aload_n 0, 1) := DX8_lineOf _ _ _ rfl
theorem dX8_lineOf_40 : decode cX8_lineOf 40 = .ok (.iconst 0, 1) := DX8_lineOf _ _ _ rfl
theorem dX8_lineOf_41 : decode cX8_lineOf 41 = .ok (.aload_n 1, 1) := DX8_lineOf _ _ _ rfl
theorem dX8_lineOf_42 : decode cX8_lineOf 42 = .ok (.getfield 45, 3) := DX8_lineOf _ _ _ rfl
theorem dX8_lineOf_45 : decode cX8_lineOf 45 = .ok (.iconst 1, 1) := DX8_lineOf _ _ _ rfl
theorem dX8_lineOf_46 : decode cX8_lineOf 46 = .ok (.isub, 1) := DX8_lineOf _ _ _ rfl
theorem dX8_lineOf_47 : decode cX8_lineOf 47 = .ok (.iload_n 3, 1) := DX8_lineOf _ _ _ rfl
theorem dX8_lineOf_48 : decode cX8_lineOf 48 = .ok (.invokevirtual 41, 3) := DX8_lineOf _ _ _ rfl
theorem dX8_lineOf_51 : decode cX8_lineOf 51 = .ok (.istore 4, 2) := DX8_lineOf _ _ _ rfl
theorem dX8_lineOf_53 : decode cX8_lineOf 53 = .ok (.iload 4, 2) := DX8_lineOf _ _ _ rfl
theorem dX8_lineOf_55 : decode cX8_lineOf 55 = .ok (.iconst (-1), 1) := DX8_lineOf _ _ _ rfl
theorem dX8_lineOf_56 : decode cX8_lineOf 56 = .ok (.if_icmp .ne 5, 3) := DX8_lineOf _ _ _ rfl
theorem dX8_lineOf_61 : decode cX8_lineOf 61 = .ok (.aload_n 0, 1) := DX8_lineOf _ _ _ rfl
theorem dX8_lineOf_62 : decode cX8_lineOf 62 = .ok (.iconst 1, 1) := DX8_lineOf _ _ _ rfl
theorem dX8_lineOf_63 : decode cX8_lineOf 63 = .ok (.bipush 24, 2) := DX8_lineOf _ _ _ rfl
theorem dX8_lineOf_65 : decode cX8_lineOf 65 = .ok (.iconst (-1), 1) := DX8_lineOf _ _ _ rfl
theorem dX8_lineOf_66 : decode cX8_lineOf 66 = .ok (.invokevirtual 41, 3) := DX8_lineOf _ _ _ rfl
theorem dX8_lineOf_69 : decode cX8_lineOf 69 = .ok (.istore 5, 2) := DX8_lineOf _ _ _ rfl
theorem dX8_lineOf_71 : decode cX8_lineOf 71 = .ok (.iload 5, 2) := DX8_lineOf _ _ _ rfl
theorem dX8_lineOf_73 : decode cX8_lineOf 73 = .ok (.iconst (-1), 1) := DX8_lineOf _ _ _ rfl
theorem dX8_lineOf_74 : decode cX8_lineOf 74 = .ok (.if_icmp .ne 5, 3) := DX8_lineOf _ _ _ rfl
theorem dX8_lineOf_79 : decode cX8_lineOf 79 = .ok (.aload_n 0, 1) := DX8_lineOf _ _ _ rfl
theorem dX8_lineOf_80 : decode cX8_lineOf 80 = .ok (.iload 5, 2) := DX8_lineOf _ _ _ rfl
theorem dX8_lineOf_82 : decode cX8_lineOf 82 = .ok (.bipush 24, 2) := DX8_lineOf _ _ _ rfl
theorem dX8_lineOf_84 : decode cX8_lineOf 84 = .ok (.iconst (-1), 1) := DX8_lineOf _ _ _ rfl
theorem dX8_lineOf_85 : decode cX8_lineOf 85 = .ok (.invokevirtual 41, 3) := DX8_lineOf _ _ _ rfl
theorem dX8_lineOf_88 : decode cX8_lineOf 88 = .ok (.istore 6, 2) := DX8_lineOf _ _ _ rfl
theorem dX8_lineOf_90 : decode cX8_lineOf 90 = .ok (.iload 6, 2) := DX8_lineOf _ _ _ rfl
theorem dX8_lineOf_92 : decode cX8_lineOf 92 = .ok (.iconst (-1), 1) := DX8_lineOf _ _ _ rfl
theorem dX8_lineOf_93 : decode cX8_lineOf 93 = .ok (.if_icmp .ne 5, 3) := DX8_lineOf _ _ _ rfl
theorem dX8_lineOf_98 : decode cX8_lineOf 98 = .ok (.aload_n 1, 1) := DX8_lineOf _ _ _ rfl
theorem dX8_lineOf_99 : decode cX8_lineOf 99 = .ok (.iload_n 3, 1) := DX8_lineOf _ _ _ rfl
theorem dX8_lineOf_100 : decode cX8_lineOf 100 = .ok (.iload 4, 2) := DX8_lineOf _ _ _ rfl
theorem dX8_lineOf_102 : decode cX8_lineOf 102 = .ok (.iload 5, 2) := DX8_lineOf _ _ _ rfl
theorem dX8_lineOf_104 : decode cX8_lineOf 104 = .ok (.iload 6, 2) := DX8_lineOf _ _ _ rfl
theorem dX8_lineOf_106 : decode cX8_lineOf 106 = .ok (.iload_n 2, 1) := DX8_lineOf _ _ _ rfl
theorem m_462 : (Cond.methodLink "NoonValley$Tape" 76 yX10_appendLine) ∈ BW := bw (tb2 222 (by decide +kernel)) (by decide +kernel)
theorem m_463 : (Cond.instanceMethod yX10_appendLine) ∈ BW := bw (tb2 223 (by decide +kernel)) (by decide +kernel)
theorem m_464 : (Cond.selects "NoonValley$Valley" yX10_appendLine yX10_appendLine) ∈ BW := bw (tb2 224 (by decide +kernel)) (by decide +kernel)
theorem vX8_76 : LV RX8 76 RX10 yX10_appendLine cX10_appendLine 7 none 5 := ⟨m_462, m_463, m_464, m_11, m_465, rfl, by decide, by decide, by decide +kernel⟩
theorem dX8_lineOf_107 : decode cX8_lineOf 107 = .ok (.invokevirtual 76, 3) := DX8_lineOf _ _ _ rfl
theorem dX8_lineOf_110 : decode cX8_lineOf 110 = .ok (.iconst 1, 1) := DX8_lineOf _ _ _ rfl
theorem dX8_lineOf_111 : decode cX8_lineOf 111 = .ok (.ireturn, 1) := DX8_lineOf _ _ _ rfl
theorem dX8_lineOf_96 : decode cX8_lineOf 96 = .ok (.iconst 0, 1) := DX8_lineOf _ _ _ rfl
theorem dX8_lineOf_97 : decode cX8_lineOf 97 = .ok (.ireturn, 1) := DX8_lineOf _ _ _ rfl
theorem dX8_lineOf_77 : decode cX8_lineOf 77 = .ok (.iconst 0, 1) := DX8_lineOf _ _ _ rfl
theorem dX8_lineOf_78 : decode cX8_lineOf 78 = .ok (.ireturn, 1) := DX8_lineOf _ _ _ rfl
theorem dX8_lineOf_59 : decode cX8_lineOf 59 = .ok (.iconst 0, 1) := DX8_lineOf _ _ _ rfl
theorem dX8_lineOf_60 : decode cX8_lineOf 60 = .ok (.ireturn, 1) := DX8_lineOf _ _ _ rfl
theorem dX8_lineOf_37 : decode cX8_lineOf 37 = .ok (.iconst 0, 1) := DX8_lineOf _ _ _ rfl
theorem dX8_lineOf_38 : decode cX8_lineOf 38 = .ok (.ireturn, 1) := DX8_lineOf _ _ _ rfl
theorem dX8_lineOf_7 : decode cX8_lineOf 7 = .ok (.iconst 0, 1) := DX8_lineOf _ _ _ rfl
theorem dX8_lineOf_8 : decode cX8_lineOf 8 = .ok (.ireturn, 1) := DX8_lineOf _ _ _ rfl
set_option maxHeartbeats 4000000 in
set_option maxRecDepth 100000 in
theorem C_X8_newsOfE (l : Launch) (g : GG) (h0 q : Nat) (f0 : Nat → Int32) (n0 : Nat) (hn0 : n0 ≤ 400) (v v3 v4 v5 v6 v7 v8 v9 v10 v11 v12 v13 v15 : Nat) (pe lc de gl : Int32) (kn : Nat) (g1 : Nat → Int32) (k0 : Nat) (hk0 : k0 < n0) : MetI l g yX8_newsOf cX8_newsOf 5 (some .boolean) 3 0 0 [.ref h0, .ref v, .ref kn] [(h0, .inr (8, [.ref q, .int (nI n0), .int (nI k0)])), (q, .inl (g.2.1 1, 400, .inl f0)), (v, .inr (10, [.int pe, .int lc, .int de, .ref v3, .ref v4, .ref v5, .ref v6, .ref v7, .ref v8, .ref v9, .ref v10, .ref v11, .ref v12, .ref v13, .int gl, .ref v15])), (kn, .inl (g.2.1 1, 4, .inl g1))] (fun r u => r = nOk n0 f0 k0 pe ∧ u = [(h0, .inr (8, [.ref q, .int (nI n0), .int (nI (nK n0 f0 k0 pe))])), (q, .inl (g.2.1 1, 400, .inl f0)), (v, .inr (10, [.int pe, .int lc, .int de, .ref v3, .ref v4, .ref v5, .ref v6, .ref v7, .ref v8, .ref v9, .ref v10, .ref v11, .ref v12, .ref v13, .int gl, .ref v15])), (kn, .inl (g.2.1 1, 4, .inl (nG n0 f0 k0 pe g1)))]) := by
  refine MetI.of (own := RX8) rfl (by decide) (Nat.le_of_ble_eq_true rfl) ?_
  intro p e s m below meth c A ls args Q hQ X hr hin hW hl
  have hx := X.1
  have hb := X.2.1
  have hl : lv_has ls 5 [(0, .ref h0), (1, .ref v), (2, .ref kn)] := hl
  refine lv_aload_n (pc := 0) hx hb dX8_newsOf_0 rfl (lv_at hl 0 rfl) ?_
  refine lv_dup (pc := 1) hx hb dX8_newsOf_1 rfl ?_
  refine r_get X hW 0 ciX8 2 rfl (by decide) m_39 rfl rfl dX8_newsOf_2 ?_
  refine lv_iconst (v := 1) (pc := 5) hx hb dX8_newsOf_5 (by decide) ?_
  refine lv_iadd (pc := 6) hx hb dX8_newsOf_6 ?_
  refine lv_topi (fun v1 ev1 => ?_)
  obtain rfl : v1 = nI (k0 + 1) := ev1.trans (nI_1 k0)
  refine r_put (ws' := [(h0, .inr (8, [.ref q, .int (nI n0), .int (nI (k0 + 1))])), (q, .inl (g.2.1 1, 400, .inl f0)), (v, .inr (10, [.int pe, .int lc, .int de, .ref v3, .ref v4, .ref v5, .ref v6, .ref v7, .ref v8, .ref v9, .ref v10, .ref v11, .ref v12, .ref v13, .int gl, .ref v15])), (kn, .inl (g.2.1 1, 4, .inl g1))]) X hW 0 ciX8 2 rfl (by decide) m_39 rfl rfl rfl rfl (Nat.le_of_ble_eq_true rfl) rfl dX8_newsOf_7 (fun H locs hW => ?_)
  refine lv_aload_n (pc := 10) hx hb dX8_newsOf_10 rfl (lv_at hl 0 rfl) ?_
  refine lv_iconst (v := 0) (pc := 11) hx hb dX8_newsOf_11 (by decide) ?_
  refine lv_aload_n (pc := 12) hx hb dX8_newsOf_12 rfl (lv_at hl 1 rfl) ?_
  refine r_getN X hW 2 ciX10 0 rfl (by decide) m_278 rfl rfl dX8_newsOf_13 ?_
  refine lv_iconst (v := 1) (pc := 16) hx hb dX8_newsOf_16 (by decide) ?_
  refine lv_isub (pc := 17) hx hb dX8_newsOf_17 ?_
  refine lv_topi (fun v2 ev2 => ?_)
  obtain rfl : v2 = pe - 1 := ev2.trans (rfl)
  refine lv_iconst (v := (-1)) (pc := 18) hx hb dX8_newsOf_18 (by decide) ?_
  refine c_Vi (pc := 19) (As := [.int 0, .int (pe - 1), .int (-1)]) (rest := []) (wr := [(v, .inr (10, [.int pe, .int lc, .int de, .ref v3, .ref v4, .ref v5, .ref v6, .ref v7, .ref v8, .ref v9, .ref v10, .ref v11, .ref v12, .ref v13, .int gl, .ref v15])), (kn, .inl (g.2.1 1, 4, .inl g1))]) X hW 0 ciX8 rfl (C_X8_numberG l g h0 q f0 n0 hn0 (k0 + 1) 0 (pe - 1) (-1) (by omega)) vX8_41 [0, 1] [2, 3] rfl rfl rfl rfl rfl rfl hl.1 rfl (Nat.le_of_ble_eq_true rfl) ⟨Nat.le_of_ble_eq_true rfl, Nat.le_of_ble_eq_true rfl⟩ ⟨Nat.le_of_ble_eq_true rfl, Nat.le_of_ble_eq_true rfl⟩ dX8_newsOf_19 (fun r3 u9 H locs hq hW => ?_)
  obtain ⟨rfl, rfl⟩ := hq
  have hnPk : nPk n0 f0 k0 pe ≤ n0 := nump_le hn0 (by omega)
  have hW : WD g A s _ _ [(v, .inr (10, [.int pe, .int lc, .int de, .ref v3, .ref v4, .ref v5, .ref v6, .ref v7, .ref v8, .ref v9, .ref v10, .ref v11, .ref v12, .ref v13, .int gl, .ref v15])), (kn, .inl (g.2.1 1, 4, .inl g1)), (h0, .inr (8, [.ref q, .int (nI n0), .int (nI (nPk n0 f0 k0 pe))])), (q, .inl (g.2.1 1, 400, .inl f0))] := hW
  refine lv_istore_n (lv' := [(3, .int (nP n0 f0 k0 pe)), (0, .ref h0), (1, .ref v), (2, .ref kn)]) (pc := 22) hx hb dX8_newsOf_22 rfl hl (by decide) rfl (fun ls hl => ?_)
  refine lv_iload_n (pc := 23) hx hb dX8_newsOf_23 rfl (lv_at hl 0 rfl) ?_
  refine lv_iconst (v := (-1)) (pc := 24) hx hb dX8_newsOf_24 (by decide) ?_
  refine lv_icmp_ne (tgt := 30) (pc := 25) hx hb dX8_newsOf_25 rfl (fun c4 => ?_) (fun c4 => ?_)
  · refine lv_aload_n (pc := 30) hx hb dX8_newsOf_30 rfl (lv_at hl 1 rfl) ?_
    refine lv_iconst (v := 0) (pc := 31) hx hb dX8_newsOf_31 (by decide) ?_
    refine lv_iconst (v := 3) (pc := 32) hx hb dX8_newsOf_32 (by decide) ?_
    refine lv_iconst (v := (-1)) (pc := 33) hx hb dX8_newsOf_33 (by decide) ?_
    refine c_Vi (pc := 34) (As := [.int 0, .int 3, .int (-1)]) (rest := []) (wr := [(v, .inr (10, [.int pe, .int lc, .int de, .ref v3, .ref v4, .ref v5, .ref v6, .ref v7, .ref v8, .ref v9, .ref v10, .ref v11, .ref v12, .ref v13, .int gl, .ref v15])), (kn, .inl (g.2.1 1, 4, .inl g1))]) X hW 2 ciX8 rfl (C_X8_numberG l g h0 q f0 n0 hn0 (nPk n0 f0 k0 pe) 0 3 (-1) (by omega)) vX8_41 [2, 3] [0, 1] rfl rfl rfl rfl rfl rfl hl.1 rfl (Nat.le_of_ble_eq_true rfl) ⟨Nat.le_of_ble_eq_true rfl, Nat.le_of_ble_eq_true rfl⟩ ⟨Nat.le_of_ble_eq_true rfl, Nat.le_of_ble_eq_true rfl⟩ dX8_newsOf_34 (fun r5 u9 H locs hq hW => ?_)
    obtain ⟨rfl, rfl⟩ := hq
    have hnNk : nNk n0 f0 k0 pe ≤ n0 := nump_le hn0 (by omega)
    have hW : WD g A s _ _ [(v, .inr (10, [.int pe, .int lc, .int de, .ref v3, .ref v4, .ref v5, .ref v6, .ref v7, .ref v8, .ref v9, .ref v10, .ref v11, .ref v12, .ref v13, .int gl, .ref v15])), (kn, .inl (g.2.1 1, 4, .inl g1)), (h0, .inr (8, [.ref q, .int (nI n0), .int (nI (nNk n0 f0 k0 pe))])), (q, .inl (g.2.1 1, 400, .inl f0))] := hW
    refine lv_istore (lv' := [(4, .int (nN n0 f0 k0 pe)), (3, .int (nP n0 f0 k0 pe)), (0, .ref h0), (1, .ref v), (2, .ref kn)]) (pc := 37) hx hb dX8_newsOf_37 hl (by decide) rfl (fun ls hl => ?_)
    refine lv_iload (pc := 39) hx hb dX8_newsOf_39 (lv_at hl 0 rfl) ?_
    refine lv_if_lt (tgt := 51) (pc := 41) hx hb dX8_newsOf_41 rfl (fun c6 => ?_) (fun c6 => ?_)
    · refine lv_iconst (v := 0) (pc := 51) hx hb dX8_newsOf_51 (by decide) ?_
      exact e_z X hQ hr hW (u := [(h0, .inr (8, [.ref q, .int (nI n0), .int (nI (nNk n0 f0 k0 pe))])), (q, .inl (g.2.1 1, 400, .inl f0)), (v, .inr (10, [.int pe, .int lc, .int de, .ref v3, .ref v4, .ref v5, .ref v6, .ref v7, .ref v8, .ref v9, .ref v10, .ref v11, .ref v12, .ref v13, .int gl, .ref v15])), (kn, .inl (g.2.1 1, 4, .inl g1))]) rfl [2, 3, 0, 1] rfl rfl (⟨(nw_1 (r := g1) c4 c6).1.symm, by rw [(nw_1 (r := g1) c4 c6).2.1, (nw_1 (r := g1) c4 c6).2.2]⟩) ⟨Nat.le_of_ble_eq_true rfl, Nat.le_of_ble_eq_true rfl⟩ dX8_newsOf_52
    · have hb0 := c6
      refine lv_iload (pc := 44) hx hb dX8_newsOf_44 (lv_at hl 0 rfl) ?_
      refine lv_aload_n (pc := 46) hx hb dX8_newsOf_46 rfl (lv_at hl 4 rfl) ?_
      refine r_alen (v := 4) X hW 1 1 rfl rfl rfl dX8_newsOf_47 ?_
      refine lv_icmp_lt (tgt := 53) (pc := 48) hx hb dX8_newsOf_48 rfl (fun c7 => ?_) (fun c7 => ?_)
      · have hin9 : vp_in (nN n0 f0 k0 pe) 4 := vp_in_iff.mpr ⟨by have h9 := hb0; rw [fa_lt, i0] at h9; omega, by have h9 := c7; rw [fa_lt, show (4 : Int32).toInt = 4 by decide] at h9; omega⟩
        refine lv_aload_n (pc := 53) hx hb dX8_newsOf_53 rfl (lv_at hl 4 rfl) ?_
        refine lv_iload (pc := 54) hx hb dX8_newsOf_54 (lv_at hl 0 rfl) ?_
        refine lv_dup2_11 (pc := 56) hx hb dX8_newsOf_56 rfl rfl ?_
        refine r_iald X hW 1 rfl hin9 dX8_newsOf_57 ?_
        refine lv_iconst (v := 1) (pc := 58) hx hb dX8_newsOf_58 (by decide) ?_
        refine lv_iload_n (pc := 59) hx hb dX8_newsOf_59 rfl (lv_at hl 1 rfl) ?_
        refine lv_ishl (pc := 60) hx hb dX8_newsOf_60 ?_
        refine lv_ior (pc := 61) hx hb dX8_newsOf_61 ?_
        obtain ⟨f8, ef8⟩ : ∃ fz : Nat → Int32, upd g1 (nN n0 f0 k0 pe).toNatClampNeg ((g1 (nN n0 f0 k0 pe).toNatClampNeg) ||| (1 <<< ((nP n0 f0 k0 pe) &&& 31))) = fz := ⟨_, rfl⟩
        refine r_iast (ws' := [(v, .inr (10, [.int pe, .int lc, .int de, .ref v3, .ref v4, .ref v5, .ref v6, .ref v7, .ref v8, .ref v9, .ref v10, .ref v11, .ref v12, .ref v13, .int gl, .ref v15])), (kn, .inl (g.2.1 1, 4, .inl f8)), (h0, .inr (8, [.ref q, .int (nI n0), .int (nI (nNk n0 f0 k0 pe))])), (q, .inl (g.2.1 1, 400, .inl f0))]) X hW 1 rfl hin9 ef8 rfl dX8_newsOf_62 (fun H locs hW => ?_)
        refine lv_iconst (v := 1) (pc := 63) hx hb dX8_newsOf_63 (by decide) ?_
        exact e_z X hQ hr hW (u := [(h0, .inr (8, [.ref q, .int (nI n0), .int (nI (nNk n0 f0 k0 pe))])), (q, .inl (g.2.1 1, 400, .inl f0)), (v, .inr (10, [.int pe, .int lc, .int de, .ref v3, .ref v4, .ref v5, .ref v6, .ref v7, .ref v8, .ref v9, .ref v10, .ref v11, .ref v12, .ref v13, .int gl, .ref v15])), (kn, .inl (g.2.1 1, 4, .inl f8))]) rfl [2, 3, 0, 1] rfl rfl (⟨(nw_2 (r := g1) c4 hb0).1.symm, by rw [(nw_2 (r := g1) c4 hb0).2.1, (nw_2 (r := g1) c4 hb0).2.2, ← ef8]⟩) ⟨Nat.le_of_ble_eq_true rfl, Nat.le_of_ble_eq_true rfl⟩ dX8_newsOf_64
      · refine lv_iconst (v := 0) (pc := 51) hx hb dX8_newsOf_51 (by decide) ?_
        exact e_z X hQ hr hW (u := [(h0, .inr (8, [.ref q, .int (nI n0), .int (nI (nNk n0 f0 k0 pe))])), (q, .inl (g.2.1 1, 400, .inl f0)), (v, .inr (10, [.int pe, .int lc, .int de, .ref v3, .ref v4, .ref v5, .ref v6, .ref v7, .ref v8, .ref v9, .ref v10, .ref v11, .ref v12, .ref v13, .int gl, .ref v15])), (kn, .inl (g.2.1 1, 4, .inl g1))]) rfl [2, 3, 0, 1] rfl rfl (absurd (Int32.not_lt.mp c7) (i32_34 (numr_in (neg_lt0 hb0)).2.1)) ⟨Nat.le_of_ble_eq_true rfl, Nat.le_of_ble_eq_true rfl⟩ dX8_newsOf_52
  · refine lv_iconst (v := 0) (pc := 28) hx hb dX8_newsOf_28 (by decide) ?_
    exact e_z X hQ hr hW (u := [(h0, .inr (8, [.ref q, .int (nI n0), .int (nI (nPk n0 f0 k0 pe))])), (q, .inl (g.2.1 1, 400, .inl f0)), (v, .inr (10, [.int pe, .int lc, .int de, .ref v3, .ref v4, .ref v5, .ref v6, .ref v7, .ref v8, .ref v9, .ref v10, .ref v11, .ref v12, .ref v13, .int gl, .ref v15])), (kn, .inl (g.2.1 1, 4, .inl g1))]) rfl [2, 3, 0, 1] rfl rfl (⟨(nw_0 (r := g1) c4).1.symm, by rw [(nw_0 (r := g1) c4).2.1, (nw_0 (r := g1) c4).2.2]⟩) ⟨Nat.le_of_ble_eq_true rfl, Nat.le_of_ble_eq_true rfl⟩ dX8_newsOf_29

set_option maxHeartbeats 4000000 in
set_option maxRecDepth 100000 in
theorem C_X10_hasRoomForLineG (l : Launch) (g : GG) (v v3 v4 v5 v6 v7 v8 v9 v10 v11 v12 v13 v15 : Nat) (pe de gl : Int32) (lc : Nat) (hc : lc ≤ 12) : MetI l g yX10_hasRoomForLine cX10_hasRoomForLine 1 (some .boolean) 0 0 0 [.ref v] [(v, .inr (10, [.int pe, .int (nI lc), .int de, .ref v3, .ref v4, .ref v5, .ref v6, .ref v7, .ref v8, .ref v9, .ref v10, .ref v11, .ref v12, .ref v13, .int gl, .ref v15]))] (fun r u => r = rmL lc ∧ u = [(v, .inr (10, [.int pe, .int (nI lc), .int de, .ref v3, .ref v4, .ref v5, .ref v6, .ref v7, .ref v8, .ref v9, .ref v10, .ref v11, .ref v12, .ref v13, .int gl, .ref v15]))]) := by
  refine MetI.of (own := RX10) rfl (by decide) (Nat.le_of_ble_eq_true rfl) ?_
  intro p e s m below meth c A ls args Q hQ X hr hin hW hl
  have hx := X.1
  have hb := X.2.1
  have hl : lv_has ls 1 [(0, .ref v)] := hl
  refine lv_aload_n (pc := 0) hx hb dX10_hasRoomForLine_0 rfl (lv_at hl 0 rfl) ?_
  refine r_get X hW 0 ciX10 1 rfl (by decide) m_280 rfl rfl dX10_hasRoomForLine_1 ?_
  refine lv_bipush (v := 12) (pc := 4) hx hb dX10_hasRoomForLine_4 (by decide) ?_
  refine lv_icmp_ge (tgt := 13) (pc := 6) hx hb dX10_hasRoomForLine_6 rfl (fun c1 => ?_) (fun c1 => ?_)
  · refine lv_iconst (v := 0) (pc := 13) hx hb dX10_hasRoomForLine_13 (by decide) ?_
    exact e_z X hQ hr hW (u := [(v, .inr (10, [.int pe, .int (nI lc), .int de, .ref v3, .ref v4, .ref v5, .ref v6, .ref v7, .ref v8, .ref v9, .ref v10, .ref v11, .ref v12, .ref v13, .int gl, .ref v15]))]) rfl [0] rfl rfl (⟨(if_neg (fun q => by have := (nI_leI (a := 12) (b := lc) (by decide) (by omega)).mp c1; omega)).symm, rfl⟩) ⟨Nat.le_of_ble_eq_true rfl, Nat.le_of_ble_eq_true rfl⟩ dX10_hasRoomForLine_14
  · have hlt : lc < 12 := ge_f (by omega) (by decide) c1
    refine lv_iconst (v := 1) (pc := 9) hx hb dX10_hasRoomForLine_9 (by decide) ?_
    refine lv_goto (tgt := 14) (pc := 10) hx hb dX10_hasRoomForLine_10 rfl ?_
    exact e_z X hQ hr hW (u := [(v, .inr (10, [.int pe, .int (nI lc), .int de, .ref v3, .ref v4, .ref v5, .ref v6, .ref v7, .ref v8, .ref v9, .ref v10, .ref v11, .ref v12, .ref v13, .int gl, .ref v15]))]) rfl [0] rfl rfl (⟨(if_pos hlt).symm, rfl⟩) ⟨Nat.le_of_ble_eq_true rfl, Nat.le_of_ble_eq_true rfl⟩ dX10_hasRoomForLine_14

set_option maxHeartbeats 4000000 in
set_option maxRecDepth 100000 in
theorem C_X10_appendLineG (l : Launch) (g : GG) (v v3 v4 v5 v6 v7 v8 v9 v10 v11 v12 v13 v15 : Nat) (pe de gl : Int32) (lc : Nat) (L : Nat → Int32) (a b x y o : Int32) (hc : lc < 12) : MetV l g yX10_appendLine cX10_appendLine 7 none 1 0 0 [.ref v, .int a, .int b, .int x, .int y, .int o] [(v, .inr (10, [.int pe, .int (nI lc), .int de, .ref v3, .ref v4, .ref v5, .ref v6, .ref v7, .ref v8, .ref v9, .ref v10, .ref v11, .ref v12, .ref v13, .int gl, .ref v15])), (v9, .inl (g.2.1 1, 72, .inl L))] (fun u => u = [(v, .inr (10, [.int pe, .int (nI (lc + 1)), .int de, .ref v3, .ref v4, .ref v5, .ref v6, .ref v7, .ref v8, .ref v9, .ref v10, .ref v11, .ref v12, .ref v13, .int gl, .ref v15])), (v9, .inl (g.2.1 1, 72, .inl (ln6 L lc a b x y o)))]) := by
  refine MetV.of (own := RX10) rfl (by decide) (Nat.le_of_ble_eq_true rfl) ?_
  intro p e s m below meth c A ls args Q hQ X hr hin hW hl
  have hx := X.1
  have hb := X.2.1
  have hl : lv_has ls 7 [(0, .ref v), (1, .int a), (2, .int b), (3, .int x), (4, .int y), (5, .int o)] := hl
  have hrm : ¬ rmL lc = 0 := fun q => by have := rmL_0 q; omega
  refine lv_aload_n (pc := 0) hx hb dX10_appendLine_0 rfl (lv_at hl 0 rfl) ?_
  refine c_Vi (pc := 1) (As := []) (rest := []) (wr := [(v9, .inl (g.2.1 1, 72, .inl L))]) X hW 0 ciX10 rfl (C_X10_hasRoomForLineG l g v v3 v4 v5 v6 v7 v8 v9 v10 v11 v12 v13 v15 pe de gl lc (by omega)) vX10_84 [0] [1] rfl rfl rfl rfl rfl rfl hl.1 rfl (Nat.le_of_ble_eq_true rfl) ⟨Nat.le_of_ble_eq_true rfl, Nat.le_of_ble_eq_true rfl⟩ ⟨Nat.le_of_ble_eq_true rfl, Nat.le_of_ble_eq_true rfl⟩ dX10_appendLine_1 (fun r1 u9 H locs hq hW => ?_)
  obtain ⟨rfl, rfl⟩ := hq
  have hW : WD g A s _ _ [(v9, .inl (g.2.1 1, 72, .inl L)), (v, .inr (10, [.int pe, .int (nI lc), .int de, .ref v3, .ref v4, .ref v5, .ref v6, .ref v7, .ref v8, .ref v9, .ref v10, .ref v11, .ref v12, .ref v13, .int gl, .ref v15]))] := hW
  refine lv_if_ne (tgt := 8) (pc := 4) hx hb dX10_appendLine_4 rfl (fun c2 => ?_) (fun c2 => absurd c2 hrm)
  refine lv_aload_n (pc := 8) hx hb dX10_appendLine_8 rfl (lv_at hl 0 rfl) ?_
  refine r_get X hW 1 ciX10 1 rfl (by decide) m_280 rfl rfl dX10_appendLine_9 ?_
  refine lv_bipush (v := 6) (pc := 12) hx hb dX10_appendLine_12 (by decide) ?_
  refine lv_imul (pc := 14) hx hb dX10_appendLine_14 ?_
  refine lv_topi (fun v3 ev3 => ?_)
  obtain rfl : v3 = nI (lc * 6) := ev3.trans (pk_mul _ _)
  refine lv_istore (lv' := [(6, .int (nI (lc * 6))), (0, .ref v), (1, .int a), (2, .int b), (3, .int x), (4, .int y), (5, .int o)]) (pc := 15) hx hb dX10_appendLine_15 hl (by decide) rfl (fun ls hl => ?_)
  refine lv_aload_n (pc := 17) hx hb dX10_appendLine_17 rfl (lv_at hl 1 rfl) ?_
  refine r_get X hW 1 ciX10 9 rfl (by decide) m_310 rfl rfl dX10_appendLine_18 ?_
  refine lv_iload (pc := 21) hx hb dX10_appendLine_21 (lv_at hl 0 rfl) ?_
  refine lv_iconst (v := 0) (pc := 23) hx hb dX10_appendLine_23 (by decide) ?_
  refine lv_iadd (pc := 24) hx hb dX10_appendLine_24 ?_
  refine lv_topi (fun v4 ev4 => ?_)
  obtain rfl : v4 = nI (lc * 6 + 0) := ev4.trans (nI_add _ _)
  refine lv_iload_n (pc := 25) hx hb dX10_appendLine_25 rfl (lv_at hl 2 rfl) ?_
  obtain ⟨f5, ef5⟩ : ∃ fz : Nat → Int32, upd L (nI (lc * 6 + 0)).toNatClampNeg a = fz := ⟨_, rfl⟩
  refine r_iast (ws' := [(v9, .inl (g.2.1 1, 72, .inl f5)), (v, .inr (10, [.int pe, .int (nI lc), .int de, .ref v3, .ref v4, .ref v5, .ref v6, .ref v7, .ref v8, .ref v9, .ref v10, .ref v11, .ref v12, .ref v13, .int gl, .ref v15]))]) X hW 0 rfl (vp_in_nI (by omega) (by decide)) ef5 rfl dX10_appendLine_26 (fun H locs hW => ?_)
  refine lv_aload_n (pc := 27) hx hb dX10_appendLine_27 rfl (lv_at hl 1 rfl) ?_
  refine r_get X hW 1 ciX10 9 rfl (by decide) m_310 rfl rfl dX10_appendLine_28 ?_
  refine lv_iload (pc := 31) hx hb dX10_appendLine_31 (lv_at hl 0 rfl) ?_
  refine lv_iconst (v := 1) (pc := 33) hx hb dX10_appendLine_33 (by decide) ?_
  refine lv_iadd (pc := 34) hx hb dX10_appendLine_34 ?_
  refine lv_topi (fun v6 ev6 => ?_)
  obtain rfl : v6 = nI (lc * 6 + 1) := ev6.trans (nI_add _ _)
  refine lv_iload_n (pc := 35) hx hb dX10_appendLine_35 rfl (lv_at hl 3 rfl) ?_
  obtain ⟨f7, ef7⟩ : ∃ fz : Nat → Int32, upd f5 (nI (lc * 6 + 1)).toNatClampNeg b = fz := ⟨_, rfl⟩
  refine r_iast (ws' := [(v9, .inl (g.2.1 1, 72, .inl f7)), (v, .inr (10, [.int pe, .int (nI lc), .int de, .ref v3, .ref v4, .ref v5, .ref v6, .ref v7, .ref v8, .ref v9, .ref v10, .ref v11, .ref v12, .ref v13, .int gl, .ref v15]))]) X hW 0 rfl (vp_in_nI (by omega) (by decide)) ef7 rfl dX10_appendLine_36 (fun H locs hW => ?_)
  refine lv_aload_n (pc := 37) hx hb dX10_appendLine_37 rfl (lv_at hl 1 rfl) ?_
  refine r_get X hW 1 ciX10 9 rfl (by decide) m_310 rfl rfl dX10_appendLine_38 ?_
  refine lv_iload (pc := 41) hx hb dX10_appendLine_41 (lv_at hl 0 rfl) ?_
  refine lv_iconst (v := 2) (pc := 43) hx hb dX10_appendLine_43 (by decide) ?_
  refine lv_iadd (pc := 44) hx hb dX10_appendLine_44 ?_
  refine lv_topi (fun v8 ev8 => ?_)
  obtain rfl : v8 = nI (lc * 6 + 2) := ev8.trans (nI_add _ _)
  refine lv_iload_n (pc := 45) hx hb dX10_appendLine_45 rfl (lv_at hl 4 rfl) ?_
  obtain ⟨f9, ef9⟩ : ∃ fz : Nat → Int32, upd f7 (nI (lc * 6 + 2)).toNatClampNeg x = fz := ⟨_, rfl⟩
  refine r_iast (ws' := [(v9, .inl (g.2.1 1, 72, .inl f9)), (v, .inr (10, [.int pe, .int (nI lc), .int de, .ref v3, .ref v4, .ref v5, .ref v6, .ref v7, .ref v8, .ref v9, .ref v10, .ref v11, .ref v12, .ref v13, .int gl, .ref v15]))]) X hW 0 rfl (vp_in_nI (by omega) (by decide)) ef9 rfl dX10_appendLine_46 (fun H locs hW => ?_)
  refine lv_aload_n (pc := 47) hx hb dX10_appendLine_47 rfl (lv_at hl 1 rfl) ?_
  refine r_get X hW 1 ciX10 9 rfl (by decide) m_310 rfl rfl dX10_appendLine_48 ?_
  refine lv_iload (pc := 51) hx hb dX10_appendLine_51 (lv_at hl 0 rfl) ?_
  refine lv_iconst (v := 3) (pc := 53) hx hb dX10_appendLine_53 (by decide) ?_
  refine lv_iadd (pc := 54) hx hb dX10_appendLine_54 ?_
  refine lv_topi (fun v10 ev10 => ?_)
  obtain rfl : v10 = nI (lc * 6 + 3) := ev10.trans (nI_add _ _)
  refine lv_iload (pc := 55) hx hb dX10_appendLine_55 (lv_at hl 5 rfl) ?_
  obtain ⟨f11, ef11⟩ : ∃ fz : Nat → Int32, upd f9 (nI (lc * 6 + 3)).toNatClampNeg y = fz := ⟨_, rfl⟩
  refine r_iast (ws' := [(v9, .inl (g.2.1 1, 72, .inl f11)), (v, .inr (10, [.int pe, .int (nI lc), .int de, .ref v3, .ref v4, .ref v5, .ref v6, .ref v7, .ref v8, .ref v9, .ref v10, .ref v11, .ref v12, .ref v13, .int gl, .ref v15]))]) X hW 0 rfl (vp_in_nI (by omega) (by decide)) ef11 rfl dX10_appendLine_57 (fun H locs hW => ?_)
  refine lv_aload_n (pc := 58) hx hb dX10_appendLine_58 rfl (lv_at hl 1 rfl) ?_
  refine r_get X hW 1 ciX10 9 rfl (by decide) m_310 rfl rfl dX10_appendLine_59 ?_
  refine lv_iload (pc := 62) hx hb dX10_appendLine_62 (lv_at hl 0 rfl) ?_
  refine lv_iconst (v := 4) (pc := 64) hx hb dX10_appendLine_64 (by decide) ?_
  refine lv_iadd (pc := 65) hx hb dX10_appendLine_65 ?_
  refine lv_topi (fun v12 ev12 => ?_)
  obtain rfl : v12 = nI (lc * 6 + 4) := ev12.trans (nI_add _ _)
  refine lv_iload (pc := 66) hx hb dX10_appendLine_66 (lv_at hl 6 rfl) ?_
  obtain ⟨f13, ef13⟩ : ∃ fz : Nat → Int32, upd f11 (nI (lc * 6 + 4)).toNatClampNeg o = fz := ⟨_, rfl⟩
  refine r_iast (ws' := [(v9, .inl (g.2.1 1, 72, .inl f13)), (v, .inr (10, [.int pe, .int (nI lc), .int de, .ref v3, .ref v4, .ref v5, .ref v6, .ref v7, .ref v8, .ref v9, .ref v10, .ref v11, .ref v12, .ref v13, .int gl, .ref v15]))]) X hW 0 rfl (vp_in_nI (by omega) (by decide)) ef13 rfl dX10_appendLine_68 (fun H locs hW => ?_)
  refine lv_aload_n (pc := 69) hx hb dX10_appendLine_69 rfl (lv_at hl 1 rfl) ?_
  refine r_get X hW 1 ciX10 9 rfl (by decide) m_310 rfl rfl dX10_appendLine_70 ?_
  refine lv_iload (pc := 73) hx hb dX10_appendLine_73 (lv_at hl 0 rfl) ?_
  refine lv_iconst (v := 5) (pc := 75) hx hb dX10_appendLine_75 (by decide) ?_
  refine lv_iadd (pc := 76) hx hb dX10_appendLine_76 ?_
  refine lv_topi (fun v14 ev14 => ?_)
  obtain rfl : v14 = nI (lc * 6 + 5) := ev14.trans (nI_add _ _)
  refine lv_iconst (v := (-1)) (pc := 77) hx hb dX10_appendLine_77 (by decide) ?_
  obtain ⟨f15, ef15⟩ : ∃ fz : Nat → Int32, upd f13 (nI (lc * 6 + 5)).toNatClampNeg (-1) = fz := ⟨_, rfl⟩
  refine r_iast (ws' := [(v9, .inl (g.2.1 1, 72, .inl f15)), (v, .inr (10, [.int pe, .int (nI lc), .int de, .ref v3, .ref v4, .ref v5, .ref v6, .ref v7, .ref v8, .ref v9, .ref v10, .ref v11, .ref v12, .ref v13, .int gl, .ref v15]))]) X hW 0 rfl (vp_in_nI (by omega) (by decide)) ef15 rfl dX10_appendLine_78 (fun H locs hW => ?_)
  refine lv_aload_n (pc := 79) hx hb dX10_appendLine_79 rfl (lv_at hl 1 rfl) ?_
  refine lv_dup (pc := 80) hx hb dX10_appendLine_80 rfl ?_
  refine r_get X hW 1 ciX10 1 rfl (by decide) m_280 rfl rfl dX10_appendLine_81 ?_
  refine lv_iconst (v := 1) (pc := 84) hx hb dX10_appendLine_84 (by decide) ?_
  refine lv_iadd (pc := 85) hx hb dX10_appendLine_85 ?_
  refine lv_topi (fun v16 ev16 => ?_)
  obtain rfl : v16 = nI (lc + 1) := ev16.trans (nI_1 lc)
  refine r_put (ws' := [(v9, .inl (g.2.1 1, 72, .inl f15)), (v, .inr (10, [.int pe, .int (nI (lc + 1)), .int de, .ref v3, .ref v4, .ref v5, .ref v6, .ref v7, .ref v8, .ref v9, .ref v10, .ref v11, .ref v12, .ref v13, .int gl, .ref v15]))]) X hW 1 ciX10 1 rfl (by decide) m_280 rfl rfl rfl rfl (Nat.le_of_ble_eq_true rfl) rfl dX10_appendLine_86 (fun H locs hW => ?_)
  exact e_v X hQ hr hW (u := [(v, .inr (10, [.int pe, .int (nI (lc + 1)), .int de, .ref v3, .ref v4, .ref v5, .ref v6, .ref v7, .ref v8, .ref v9, .ref v10, .ref v11, .ref v12, .ref v13, .int gl, .ref v15])), (v9, .inl (g.2.1 1, 72, .inl f15))]) [1, 0] rfl rfl (by rw [ln6, ← ef15, ← ef13, ← ef11, ← ef9, ← ef7, ← ef5, nI_clamp (by omega), nI_clamp (by omega), nI_clamp (by omega), nI_clamp (by omega), nI_clamp (by omega), nI_clamp (by omega)]) ⟨Nat.le_of_ble_eq_true rfl, Nat.le_of_ble_eq_true rfl⟩ dX10_appendLine_89

set_option maxHeartbeats 4000000 in
set_option maxRecDepth 100000 in
theorem C_X8_lineOfG (l : Launch) (g : GG) (h0 q : Nat) (f0 : Nat → Int32) (n0 : Nat) (hn0 : n0 ≤ 400) (v v3 v4 v5 v6 v7 v8 v9 v10 v11 v12 v13 v15 : Nat) (pe de gl : Int32) (lc : Nat) (L : Nat → Int32) (o : Int32) (k0 : Nat) (hk0 : k0 < n0) (hc : lc ≤ 12) : MetI l g yX8_lineOf cX8_lineOf 7 (some .boolean) 3 0 0 [.ref h0, .ref v, .int o] [(h0, .inr (8, [.ref q, .int (nI n0), .int (nI k0)])), (q, .inl (g.2.1 1, 400, .inl f0)), (v, .inr (10, [.int pe, .int (nI lc), .int de, .ref v3, .ref v4, .ref v5, .ref v6, .ref v7, .ref v8, .ref v9, .ref v10, .ref v11, .ref v12, .ref v13, .int gl, .ref v15])), (v9, .inl (g.2.1 1, 72, .inl L))] (fun r u => r = lOk n0 f0 k0 pe lc ∧ u = [(h0, .inr (8, [.ref q, .int (nI n0), .int (nI (lK n0 f0 k0 pe lc))])), (q, .inl (g.2.1 1, 400, .inl f0)), (v, .inr (10, [.int pe, .int (nI (lC n0 f0 k0 pe lc)), .int de, .ref v3, .ref v4, .ref v5, .ref v6, .ref v7, .ref v8, .ref v9, .ref v10, .ref v11, .ref v12, .ref v13, .int gl, .ref v15])), (v9, .inl (g.2.1 1, 72, .inl (lL n0 f0 k0 pe lc o L)))]) := by
  refine MetI.of (own := RX8) rfl (by decide) (Nat.le_of_ble_eq_true rfl) ?_
  intro p e s m below meth c A ls args Q hQ X hr hin hW hl
  have hx := X.1
  have hb := X.2.1
  have hl : lv_has ls 7 [(0, .ref h0), (1, .ref v), (2, .int o)] := hl
  refine lv_aload_n (pc := 0) hx hb dX8_lineOf_0 rfl (lv_at hl 1 rfl) ?_
  refine c_Vi (pc := 1) (As := []) (rest := []) (wr := [(h0, .inr (8, [.ref q, .int (nI n0), .int (nI k0)])), (q, .inl (g.2.1 1, 400, .inl f0)), (v9, .inl (g.2.1 1, 72, .inl L))]) X hW 2 ciX10 rfl (C_X10_hasRoomForLineG l g v v3 v4 v5 v6 v7 v8 v9 v10 v11 v12 v13 v15 pe de gl lc (by omega)) vX8_72 [2] [0, 1, 3] rfl rfl rfl rfl rfl rfl hl.1 rfl (Nat.le_of_ble_eq_true rfl) ⟨Nat.le_of_ble_eq_true rfl, Nat.le_of_ble_eq_true rfl⟩ ⟨Nat.le_of_ble_eq_true rfl, Nat.le_of_ble_eq_true rfl⟩ dX8_lineOf_1 (fun r1 u9 H locs hq hW => ?_)
  obtain ⟨rfl, rfl⟩ := hq
  have hW : WD g A s _ _ [(h0, .inr (8, [.ref q, .int (nI n0), .int (nI k0)])), (q, .inl (g.2.1 1, 400, .inl f0)), (v9, .inl (g.2.1 1, 72, .inl L)), (v, .inr (10, [.int pe, .int (nI lc), .int de, .ref v3, .ref v4, .ref v5, .ref v6, .ref v7, .ref v8, .ref v9, .ref v10, .ref v11, .ref v12, .ref v13, .int gl, .ref v15]))] := hW
  refine lv_if_ne (tgt := 9) (pc := 4) hx hb dX8_lineOf_4 rfl (fun c2 => ?_) (fun c2 => ?_)
  · have hroom := rmL_1 c2
    have c_0 : ¬ 12 ≤ lc := by omega
    refine lv_aload_n (pc := 9) hx hb dX8_lineOf_9 rfl (lv_at hl 0 rfl) ?_
    refine lv_dup (pc := 10) hx hb dX8_lineOf_10 rfl ?_
    refine r_get X hW 0 ciX8 2 rfl (by decide) m_39 rfl rfl dX8_lineOf_11 ?_
    refine lv_iconst (v := 1) (pc := 14) hx hb dX8_lineOf_14 (by decide) ?_
    refine lv_iadd (pc := 15) hx hb dX8_lineOf_15 ?_
    refine lv_topi (fun v3 ev3 => ?_)
    obtain rfl : v3 = nI (k0 + 1) := ev3.trans (nI_1 k0)
    refine r_put (ws' := [(h0, .inr (8, [.ref q, .int (nI n0), .int (nI (k0 + 1))])), (q, .inl (g.2.1 1, 400, .inl f0)), (v9, .inl (g.2.1 1, 72, .inl L)), (v, .inr (10, [.int pe, .int (nI lc), .int de, .ref v3, .ref v4, .ref v5, .ref v6, .ref v7, .ref v8, .ref v9, .ref v10, .ref v11, .ref v12, .ref v13, .int gl, .ref v15]))]) X hW 0 ciX8 2 rfl (by decide) m_39 rfl rfl rfl rfl (Nat.le_of_ble_eq_true rfl) rfl dX8_lineOf_16 (fun H locs hW => ?_)
    refine lv_aload_n (pc := 19) hx hb dX8_lineOf_19 rfl (lv_at hl 0 rfl) ?_
    refine lv_iconst (v := 0) (pc := 20) hx hb dX8_lineOf_20 (by decide) ?_
    refine lv_aload_n (pc := 21) hx hb dX8_lineOf_21 rfl (lv_at hl 1 rfl) ?_
    refine r_getN X hW 3 ciX10 0 rfl (by decide) m_278 rfl rfl dX8_lineOf_22 ?_
    refine lv_iconst (v := 1) (pc := 25) hx hb dX8_lineOf_25 (by decide) ?_
    refine lv_isub (pc := 26) hx hb dX8_lineOf_26 ?_
    refine lv_topi (fun v4 ev4 => ?_)
    obtain rfl : v4 = pe - 1 := ev4.trans (rfl)
    refine lv_iconst (v := (-1)) (pc := 27) hx hb dX8_lineOf_27 (by decide) ?_
    refine c_Vi (pc := 28) (As := [.int 0, .int (pe - 1), .int (-1)]) (rest := []) (wr := [(v9, .inl (g.2.1 1, 72, .inl L)), (v, .inr (10, [.int pe, .int (nI lc), .int de, .ref v3, .ref v4, .ref v5, .ref v6, .ref v7, .ref v8, .ref v9, .ref v10, .ref v11, .ref v12, .ref v13, .int gl, .ref v15]))]) X hW 0 ciX8 rfl (C_X8_numberG l g h0 q f0 n0 hn0 (k0 + 1) 0 (pe - 1) (-1) (by omega)) vX8_41 [0, 1] [2, 3] rfl rfl rfl rfl rfl rfl hl.1 rfl (Nat.le_of_ble_eq_true rfl) ⟨Nat.le_of_ble_eq_true rfl, Nat.le_of_ble_eq_true rfl⟩ ⟨Nat.le_of_ble_eq_true rfl, Nat.le_of_ble_eq_true rfl⟩ dX8_lineOf_28 (fun r5 u9 H locs hq hW => ?_)
    obtain ⟨rfl, rfl⟩ := hq
    have hlAk : lAk n0 f0 k0 pe ≤ n0 := nump_le hn0 (by omega)
    have hW : WD g A s _ _ [(v9, .inl (g.2.1 1, 72, .inl L)), (v, .inr (10, [.int pe, .int (nI lc), .int de, .ref v3, .ref v4, .ref v5, .ref v6, .ref v7, .ref v8, .ref v9, .ref v10, .ref v11, .ref v12, .ref v13, .int gl, .ref v15])), (h0, .inr (8, [.ref q, .int (nI n0), .int (nI (lAk n0 f0 k0 pe))])), (q, .inl (g.2.1 1, 400, .inl f0))] := hW
    refine lv_istore_n (lv' := [(3, .int (lA n0 f0 k0 pe)), (0, .ref h0), (1, .ref v), (2, .int o)]) (pc := 31) hx hb dX8_lineOf_31 rfl hl (by decide) rfl (fun ls hl => ?_)
    refine lv_iload_n (pc := 32) hx hb dX8_lineOf_32 rfl (lv_at hl 0 rfl) ?_
    refine lv_iconst (v := (-1)) (pc := 33) hx hb dX8_lineOf_33 (by decide) ?_
    refine lv_icmp_ne (tgt := 39) (pc := 34) hx hb dX8_lineOf_34 rfl (fun c6 => ?_) (fun c6 => ?_)
    · have c_1 := c6
      refine lv_aload_n (pc := 39) hx hb dX8_lineOf_39 rfl (lv_at hl 1 rfl) ?_
      refine lv_iconst (v := 0) (pc := 40) hx hb dX8_lineOf_40 (by decide) ?_
      refine lv_aload_n (pc := 41) hx hb dX8_lineOf_41 rfl (lv_at hl 2 rfl) ?_
      refine r_getN X hW 1 ciX10 0 rfl (by decide) m_278 rfl rfl dX8_lineOf_42 ?_
      refine lv_iconst (v := 1) (pc := 45) hx hb dX8_lineOf_45 (by decide) ?_
      refine lv_isub (pc := 46) hx hb dX8_lineOf_46 ?_
      refine lv_topi (fun v7 ev7 => ?_)
      obtain rfl : v7 = pe - 1 := ev7.trans (rfl)
      refine lv_iload_n (pc := 47) hx hb dX8_lineOf_47 rfl (lv_at hl 0 rfl) ?_
      refine c_Vi (pc := 48) (As := [.int 0, .int (pe - 1), .int (lA n0 f0 k0 pe)]) (rest := []) (wr := [(v9, .inl (g.2.1 1, 72, .inl L)), (v, .inr (10, [.int pe, .int (nI lc), .int de, .ref v3, .ref v4, .ref v5, .ref v6, .ref v7, .ref v8, .ref v9, .ref v10, .ref v11, .ref v12, .ref v13, .int gl, .ref v15]))]) X hW 2 ciX8 rfl (C_X8_numberG l g h0 q f0 n0 hn0 (lAk n0 f0 k0 pe) 0 (pe - 1) (lA n0 f0 k0 pe) (by omega)) vX8_41 [2, 3] [0, 1] rfl rfl rfl rfl rfl rfl hl.1 rfl (Nat.le_of_ble_eq_true rfl) ⟨Nat.le_of_ble_eq_true rfl, Nat.le_of_ble_eq_true rfl⟩ ⟨Nat.le_of_ble_eq_true rfl, Nat.le_of_ble_eq_true rfl⟩ dX8_lineOf_48 (fun r8 u9 H locs hq hW => ?_)
      obtain ⟨rfl, rfl⟩ := hq
      have hlBk : lBk n0 f0 k0 pe ≤ n0 := nump_le hn0 (by omega)
      have hW : WD g A s _ _ [(v9, .inl (g.2.1 1, 72, .inl L)), (v, .inr (10, [.int pe, .int (nI lc), .int de, .ref v3, .ref v4, .ref v5, .ref v6, .ref v7, .ref v8, .ref v9, .ref v10, .ref v11, .ref v12, .ref v13, .int gl, .ref v15])), (h0, .inr (8, [.ref q, .int (nI n0), .int (nI (lBk n0 f0 k0 pe))])), (q, .inl (g.2.1 1, 400, .inl f0))] := hW
      refine lv_istore (lv' := [(4, .int (lB n0 f0 k0 pe)), (3, .int (lA n0 f0 k0 pe)), (0, .ref h0), (1, .ref v), (2, .int o)]) (pc := 51) hx hb dX8_lineOf_51 hl (by decide) rfl (fun ls hl => ?_)
      refine lv_iload (pc := 53) hx hb dX8_lineOf_53 (lv_at hl 0 rfl) ?_
      refine lv_iconst (v := (-1)) (pc := 55) hx hb dX8_lineOf_55 (by decide) ?_
      refine lv_icmp_ne (tgt := 61) (pc := 56) hx hb dX8_lineOf_56 rfl (fun c9 => ?_) (fun c9 => ?_)
      · have c_2 := c9
        refine lv_aload_n (pc := 61) hx hb dX8_lineOf_61 rfl (lv_at hl 2 rfl) ?_
        refine lv_iconst (v := 1) (pc := 62) hx hb dX8_lineOf_62 (by decide) ?_
        refine lv_bipush (v := 24) (pc := 63) hx hb dX8_lineOf_63 (by decide) ?_
        refine lv_iconst (v := (-1)) (pc := 65) hx hb dX8_lineOf_65 (by decide) ?_
        refine c_Vi (pc := 66) (As := [.int 1, .int 24, .int (-1)]) (rest := []) (wr := [(v9, .inl (g.2.1 1, 72, .inl L)), (v, .inr (10, [.int pe, .int (nI lc), .int de, .ref v3, .ref v4, .ref v5, .ref v6, .ref v7, .ref v8, .ref v9, .ref v10, .ref v11, .ref v12, .ref v13, .int gl, .ref v15]))]) X hW 2 ciX8 rfl (C_X8_numberG l g h0 q f0 n0 hn0 (lBk n0 f0 k0 pe) 1 24 (-1) (by omega)) vX8_41 [2, 3] [0, 1] rfl rfl rfl rfl rfl rfl hl.1 rfl (Nat.le_of_ble_eq_true rfl) ⟨Nat.le_of_ble_eq_true rfl, Nat.le_of_ble_eq_true rfl⟩ ⟨Nat.le_of_ble_eq_true rfl, Nat.le_of_ble_eq_true rfl⟩ dX8_lineOf_66 (fun r10 u9 H locs hq hW => ?_)
        obtain ⟨rfl, rfl⟩ := hq
        have hlFk : lFk n0 f0 k0 pe ≤ n0 := nump_le hn0 (by omega)
        have hW : WD g A s _ _ [(v9, .inl (g.2.1 1, 72, .inl L)), (v, .inr (10, [.int pe, .int (nI lc), .int de, .ref v3, .ref v4, .ref v5, .ref v6, .ref v7, .ref v8, .ref v9, .ref v10, .ref v11, .ref v12, .ref v13, .int gl, .ref v15])), (h0, .inr (8, [.ref q, .int (nI n0), .int (nI (lFk n0 f0 k0 pe))])), (q, .inl (g.2.1 1, 400, .inl f0))] := hW
        refine lv_istore (lv' := [(5, .int (lF n0 f0 k0 pe)), (4, .int (lB n0 f0 k0 pe)), (3, .int (lA n0 f0 k0 pe)), (0, .ref h0), (1, .ref v), (2, .int o)]) (pc := 69) hx hb dX8_lineOf_69 hl (by decide) rfl (fun ls hl => ?_)
        refine lv_iload (pc := 71) hx hb dX8_lineOf_71 (lv_at hl 0 rfl) ?_
        refine lv_iconst (v := (-1)) (pc := 73) hx hb dX8_lineOf_73 (by decide) ?_
        refine lv_icmp_ne (tgt := 79) (pc := 74) hx hb dX8_lineOf_74 rfl (fun c11 => ?_) (fun c11 => ?_)
        · have c_3 := c11
          refine lv_aload_n (pc := 79) hx hb dX8_lineOf_79 rfl (lv_at hl 3 rfl) ?_
          refine lv_iload (pc := 80) hx hb dX8_lineOf_80 (lv_at hl 0 rfl) ?_
          refine lv_bipush (v := 24) (pc := 82) hx hb dX8_lineOf_82 (by decide) ?_
          refine lv_iconst (v := (-1)) (pc := 84) hx hb dX8_lineOf_84 (by decide) ?_
          refine c_Vi (pc := 85) (As := [.int (lF n0 f0 k0 pe), .int 24, .int (-1)]) (rest := []) (wr := [(v9, .inl (g.2.1 1, 72, .inl L)), (v, .inr (10, [.int pe, .int (nI lc), .int de, .ref v3, .ref v4, .ref v5, .ref v6, .ref v7, .ref v8, .ref v9, .ref v10, .ref v11, .ref v12, .ref v13, .int gl, .ref v15]))]) X hW 2 ciX8 rfl (C_X8_numberG l g h0 q f0 n0 hn0 (lFk n0 f0 k0 pe) (lF n0 f0 k0 pe) 24 (-1) (by omega)) vX8_41 [2, 3] [0, 1] rfl rfl rfl rfl rfl rfl hl.1 rfl (Nat.le_of_ble_eq_true rfl) ⟨Nat.le_of_ble_eq_true rfl, Nat.le_of_ble_eq_true rfl⟩ ⟨Nat.le_of_ble_eq_true rfl, Nat.le_of_ble_eq_true rfl⟩ dX8_lineOf_85 (fun r12 u9 H locs hq hW => ?_)
          obtain ⟨rfl, rfl⟩ := hq
          have hlTk : lTk n0 f0 k0 pe ≤ n0 := nump_le hn0 (by omega)
          have hW : WD g A s _ _ [(v9, .inl (g.2.1 1, 72, .inl L)), (v, .inr (10, [.int pe, .int (nI lc), .int de, .ref v3, .ref v4, .ref v5, .ref v6, .ref v7, .ref v8, .ref v9, .ref v10, .ref v11, .ref v12, .ref v13, .int gl, .ref v15])), (h0, .inr (8, [.ref q, .int (nI n0), .int (nI (lTk n0 f0 k0 pe))])), (q, .inl (g.2.1 1, 400, .inl f0))] := hW
          refine lv_istore (lv' := [(6, .int (lT n0 f0 k0 pe)), (5, .int (lF n0 f0 k0 pe)), (4, .int (lB n0 f0 k0 pe)), (3, .int (lA n0 f0 k0 pe)), (0, .ref h0), (1, .ref v), (2, .int o)]) (pc := 88) hx hb dX8_lineOf_88 hl (by decide) rfl (fun ls hl => ?_)
          refine lv_iload (pc := 90) hx hb dX8_lineOf_90 (lv_at hl 0 rfl) ?_
          refine lv_iconst (v := (-1)) (pc := 92) hx hb dX8_lineOf_92 (by decide) ?_
          refine lv_icmp_ne (tgt := 98) (pc := 93) hx hb dX8_lineOf_93 rfl (fun c13 => ?_) (fun c13 => ?_)
          · have c_4 := c13
            refine lv_aload_n (pc := 98) hx hb dX8_lineOf_98 rfl (lv_at hl 5 rfl) ?_
            refine lv_iload_n (pc := 99) hx hb dX8_lineOf_99 rfl (lv_at hl 3 rfl) ?_
            refine lv_iload (pc := 100) hx hb dX8_lineOf_100 (lv_at hl 2 rfl) ?_
            refine lv_iload (pc := 102) hx hb dX8_lineOf_102 (lv_at hl 1 rfl) ?_
            refine lv_iload (pc := 104) hx hb dX8_lineOf_104 (lv_at hl 0 rfl) ?_
            refine lv_iload_n (pc := 106) hx hb dX8_lineOf_106 rfl (lv_at hl 6 rfl) ?_
            refine c_Vv (pc := 107) (As := [.int (lA n0 f0 k0 pe), .int (lB n0 f0 k0 pe), .int (lF n0 f0 k0 pe), .int (lT n0 f0 k0 pe), .int o]) (rest := []) (wr := [(h0, .inr (8, [.ref q, .int (nI n0), .int (nI (lTk n0 f0 k0 pe))])), (q, .inl (g.2.1 1, 400, .inl f0))]) X hW 1 ciX10 rfl (C_X10_appendLineG l g v v3 v4 v5 v6 v7 v8 v9 v10 v11 v12 v13 v15 pe de gl lc L (lA n0 f0 k0 pe) (lB n0 f0 k0 pe) (lF n0 f0 k0 pe) (lT n0 f0 k0 pe) o (by omega)) vX8_76 [1, 0] [2, 3] rfl rfl rfl rfl rfl rfl hl.1 rfl (Nat.le_of_ble_eq_true rfl) ⟨Nat.le_of_ble_eq_true rfl, Nat.le_of_ble_eq_true rfl⟩ ⟨Nat.le_of_ble_eq_true rfl, Nat.le_of_ble_eq_true rfl⟩ dX8_lineOf_107 (fun u9 H locs hq hW => ?_)
            obtain rfl := hq
            have hW : WD g A s _ _ [(h0, .inr (8, [.ref q, .int (nI n0), .int (nI (lTk n0 f0 k0 pe))])), (q, .inl (g.2.1 1, 400, .inl f0)), (v, .inr (10, [.int pe, .int (nI (lc + 1)), .int de, .ref v3, .ref v4, .ref v5, .ref v6, .ref v7, .ref v8, .ref v9, .ref v10, .ref v11, .ref v12, .ref v13, .int gl, .ref v15])), (v9, .inl (g.2.1 1, 72, .inl (ln6 L lc (lA n0 f0 k0 pe) (lB n0 f0 k0 pe) (lF n0 f0 k0 pe) (lT n0 f0 k0 pe) o)))] := hW
            refine lv_iconst (v := 1) (pc := 110) hx hb dX8_lineOf_110 (by decide) ?_
            exact e_z X hQ hr hW (u := [(h0, .inr (8, [.ref q, .int (nI n0), .int (nI (lTk n0 f0 k0 pe))])), (q, .inl (g.2.1 1, 400, .inl f0)), (v, .inr (10, [.int pe, .int (nI (lc + 1)), .int de, .ref v3, .ref v4, .ref v5, .ref v6, .ref v7, .ref v8, .ref v9, .ref v10, .ref v11, .ref v12, .ref v13, .int gl, .ref v15])), (v9, .inl (g.2.1 1, 72, .inl (ln6 L lc (lA n0 f0 k0 pe) (lB n0 f0 k0 pe) (lF n0 f0 k0 pe) (lT n0 f0 k0 pe) o)))]) rfl [0, 1, 2, 3] rfl rfl (⟨(lJ_5 (o := o) (L := L) c_0 c_1 c_2 c_3 c_4).2.1.symm, by rw [(lJ_5 (o := o) (L := L) c_0 c_1 c_2 c_3 c_4).1.2, (lJ_5 (o := o) (L := L) c_0 c_1 c_2 c_3 c_4).2.2.1, (lJ_5 (o := o) (L := L) c_0 c_1 c_2 c_3 c_4).2.2.2]⟩) ⟨Nat.le_of_ble_eq_true rfl, Nat.le_of_ble_eq_true rfl⟩ dX8_lineOf_111
          · refine lv_iconst (v := 0) (pc := 96) hx hb dX8_lineOf_96 (by decide) ?_
            exact e_z X hQ hr hW (u := [(h0, .inr (8, [.ref q, .int (nI n0), .int (nI (lTk n0 f0 k0 pe))])), (q, .inl (g.2.1 1, 400, .inl f0)), (v, .inr (10, [.int pe, .int (nI lc), .int de, .ref v3, .ref v4, .ref v5, .ref v6, .ref v7, .ref v8, .ref v9, .ref v10, .ref v11, .ref v12, .ref v13, .int gl, .ref v15])), (v9, .inl (g.2.1 1, 72, .inl L))]) rfl [2, 3, 1, 0] rfl rfl (⟨(lJ_n (o := o) (L := L) (lJ_4 c_0 c_1 c_2 c_3 c13).1 (by decide)).1.symm, by rw [(lJ_4 c_0 c_1 c_2 c_3 c13).2, (lJ_n (o := o) (L := L) (lJ_4 c_0 c_1 c_2 c_3 c13).1 (by decide)).2.1, (lJ_n (o := o) (L := L) (lJ_4 c_0 c_1 c_2 c_3 c13).1 (by decide)).2.2]⟩) ⟨Nat.le_of_ble_eq_true rfl, Nat.le_of_ble_eq_true rfl⟩ dX8_lineOf_97
        · refine lv_iconst (v := 0) (pc := 77) hx hb dX8_lineOf_77 (by decide) ?_
          exact e_z X hQ hr hW (u := [(h0, .inr (8, [.ref q, .int (nI n0), .int (nI (lFk n0 f0 k0 pe))])), (q, .inl (g.2.1 1, 400, .inl f0)), (v, .inr (10, [.int pe, .int (nI lc), .int de, .ref v3, .ref v4, .ref v5, .ref v6, .ref v7, .ref v8, .ref v9, .ref v10, .ref v11, .ref v12, .ref v13, .int gl, .ref v15])), (v9, .inl (g.2.1 1, 72, .inl L))]) rfl [2, 3, 1, 0] rfl rfl (⟨(lJ_n (o := o) (L := L) (lJ_3 c_0 c_1 c_2 c11).1 (by decide)).1.symm, by rw [(lJ_3 c_0 c_1 c_2 c11).2, (lJ_n (o := o) (L := L) (lJ_3 c_0 c_1 c_2 c11).1 (by decide)).2.1, (lJ_n (o := o) (L := L) (lJ_3 c_0 c_1 c_2 c11).1 (by decide)).2.2]⟩) ⟨Nat.le_of_ble_eq_true rfl, Nat.le_of_ble_eq_true rfl⟩ dX8_lineOf_78
      · refine lv_iconst (v := 0) (pc := 59) hx hb dX8_lineOf_59 (by decide) ?_
        exact e_z X hQ hr hW (u := [(h0, .inr (8, [.ref q, .int (nI n0), .int (nI (lBk n0 f0 k0 pe))])), (q, .inl (g.2.1 1, 400, .inl f0)), (v, .inr (10, [.int pe, .int (nI lc), .int de, .ref v3, .ref v4, .ref v5, .ref v6, .ref v7, .ref v8, .ref v9, .ref v10, .ref v11, .ref v12, .ref v13, .int gl, .ref v15])), (v9, .inl (g.2.1 1, 72, .inl L))]) rfl [2, 3, 1, 0] rfl rfl (⟨(lJ_n (o := o) (L := L) (lJ_2 c_0 c_1 c9).1 (by decide)).1.symm, by rw [(lJ_2 c_0 c_1 c9).2, (lJ_n (o := o) (L := L) (lJ_2 c_0 c_1 c9).1 (by decide)).2.1, (lJ_n (o := o) (L := L) (lJ_2 c_0 c_1 c9).1 (by decide)).2.2]⟩) ⟨Nat.le_of_ble_eq_true rfl, Nat.le_of_ble_eq_true rfl⟩ dX8_lineOf_60
    · refine lv_iconst (v := 0) (pc := 37) hx hb dX8_lineOf_37 (by decide) ?_
      exact e_z X hQ hr hW (u := [(h0, .inr (8, [.ref q, .int (nI n0), .int (nI (lAk n0 f0 k0 pe))])), (q, .inl (g.2.1 1, 400, .inl f0)), (v, .inr (10, [.int pe, .int (nI lc), .int de, .ref v3, .ref v4, .ref v5, .ref v6, .ref v7, .ref v8, .ref v9, .ref v10, .ref v11, .ref v12, .ref v13, .int gl, .ref v15])), (v9, .inl (g.2.1 1, 72, .inl L))]) rfl [2, 3, 1, 0] rfl rfl (⟨(lJ_n (o := o) (L := L) (lJ_1 c_0 c6).1 (by decide)).1.symm, by rw [(lJ_1 c_0 c6).2, (lJ_n (o := o) (L := L) (lJ_1 c_0 c6).1 (by decide)).2.1, (lJ_n (o := o) (L := L) (lJ_1 c_0 c6).1 (by decide)).2.2]⟩) ⟨Nat.le_of_ble_eq_true rfl, Nat.le_of_ble_eq_true rfl⟩ dX8_lineOf_38
  · refine lv_iconst (v := 0) (pc := 7) hx hb dX8_lineOf_7 (by decide) ?_
    exact e_z X hQ hr hW (u := [(h0, .inr (8, [.ref q, .int (nI n0), .int (nI k0)])), (q, .inl (g.2.1 1, 400, .inl f0)), (v, .inr (10, [.int pe, .int (nI lc), .int de, .ref v3, .ref v4, .ref v5, .ref v6, .ref v7, .ref v8, .ref v9, .ref v10, .ref v11, .ref v12, .ref v13, .int gl, .ref v15])), (v9, .inl (g.2.1 1, 72, .inl L))]) rfl [0, 1, 3, 2] rfl rfl (⟨(lJ_n (o := o) (L := L) (lJ_0 (n := n0) (f := f0) (k := k0) (pe := pe) (rmL_0 c2)).1 (by decide)).1.symm, by rw [(lJ_0 (n := n0) (f := f0) (k := k0) (pe := pe) (rmL_0 c2)).2, (lJ_n (o := o) (L := L) (lJ_0 (n := n0) (f := f0) (k := k0) (pe := pe) (rmL_0 c2)).1 (by decide)).2.1, (lJ_n (o := o) (L := L) (lJ_0 (n := n0) (f := f0) (k := k0) (pe := pe) (rmL_0 c2)).1 (by decide)).2.2]⟩) ⟨Nat.le_of_ble_eq_true rfl, Nat.le_of_ble_eq_true rfl⟩ dX8_lineOf_8

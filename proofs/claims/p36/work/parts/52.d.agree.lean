/-! both readings of a text agree -/
abbrev DG (n : Nat) (f : Nat → Int32) (q : Nat) : Prop := ¬ dg n f (nI q) = 0
theorem DG_at {n q : Nat} {f : Nat → Int32} (hn : n ≤ 400) (hq : q < 2 ^ 31) (h : DG n f q) : q < n ∧ ¬ atv n f (nI q) = 32 ∧ ¬ atv n f (nI q) = 59 := by
  obtain ⟨h1, h2⟩ := inv3_yes h
  exact ⟨dg_lt hn hq h, fun e => h1 (by rw [e]; decide), fun e => h2 (by rw [e]; decide)⟩
theorem DG_sk {n q : Nat} {f : Nat → Int32} (hn : n ≤ 400) (hq : q ≤ n) (h : DG n f q) : skn n f q = q := skn_n2 hn hq (DG_at hn (by omega) h).2.1
theorem DG_no {n q : Nat} {f : Nat → Int32} {lo hi un : Int32} (hn : n ≤ 400) (hq : q ≤ n) (h : DG n f q) : numr n f q lo hi un = -1 ∧ nump n f q lo hi un = q := by
  have e := DG_sk hn hq h
  obtain ⟨h1, h2⟩ := num_no (lo := lo) (hi := hi) (un := un) (show numNo n f q from Or.inl e)
  exact ⟨h1, h2.trans e⟩
theorem num_tri {n k : Nat} {f : Nat → Int32} (lo hi un : Int32) (hn : n ≤ 400) (hk : k ≤ n) (hlo : ¬ lo < 0) :
    (numr n f k lo hi un = -1 ∧ rnr n f k lo hi un = 0 ∧ rnf n f k lo hi un (-1) = nI (nump n f k lo hi un)) ∨
    (¬ numr n f k lo hi un = -1 ∧ ¬ numr n f k lo hi un < lo ∧ ¬ hi < numr n f k lo hi un ∧ numr n f k lo hi un = nval n f k ∧ nump n f k lo hi un = nk2 n f k + 1 ∧ rna n f k = nk2 n f k + 1 ∧ nk2 n f k + 1 ≤ n ∧
      ((rnr n f k lo hi un = 0 ∧ rnf n f k lo hi un (-1) = nI (nk2 n f k + 1) ∧ DG n f (nk2 n f k + 1)) ∨ ¬ rnr n f k lo hi un = 0)) := by
  by_cases h : numNo n f k
  · obtain ⟨a1, a2⟩ := num_no (lo := lo) (hi := hi) (un := un) h
    obtain ⟨b1, -, -, b4⟩ := rn_no (lo := lo) (hi := hi) (un := un) (v := 0) (i := -1) h
    exact Or.inl ⟨a1, b1, by rw [b4, a2, fl_m1]⟩
  · by_cases h2 : numBad (nval n f k) lo hi un
    · obtain ⟨a1, a2⟩ := num_bad h h2
      obtain ⟨b1, -, -, b4⟩ := rn_bad (v := 0) (i := -1) h h2
      exact Or.inl ⟨a1, b1, by rw [b4, a2, fl_m1]⟩
    · obtain ⟨a1, a2⟩ := num_ok h h2
      have h3 : ¬ nval n f k < lo := fun q => h2 (Or.inl q)
      have h4 : ¬ hi < nval n f k := fun q => h2 (Or.inr (Or.inl q))
      have h5 : ¬ nval n f k = -1 := fun q => by
        rw [q] at h3
        have e1 : ¬ (-1 : Int32).toInt < lo.toInt := fun z => h3 (Int32.lt_iff_toInt_lt.mpr z)
        have e2 : ¬ lo.toInt < (0 : Int32).toInt := fun z => hlo (Int32.lt_iff_toInt_lt.mpr z)
        rw [show (-1 : Int32).toInt = -1 from by decide] at e1
        rw [show (0 : Int32).toInt = 0 from by decide] at e2
        omega
      refine Or.inr ⟨by rw [a1]; exact h5, by rw [a1]; exact h3, by rw [a1]; exact h4, a1, a2, if_neg h, nk2_le hn hk h, ?_⟩
      by_cases hd : dg n f (nI (nk2 n f k + 1)) = 0
      · obtain ⟨b1, -⟩ := rn_ok (v := 0) (i := -1) h h2 hd
        exact Or.inr (by rw [b1]; decide)
      · obtain ⟨b1, -, -, b4⟩ := rn_dig (v := 0) (i := -1) h h2 hd
        exact Or.inl ⟨b1, by rw [b4, fl_m1], hd⟩
theorem z_n0 : ¬ (0 : Int32) < 0 := by decide
theorem z_n1 : ¬ (1 : Int32) < 0 := by decide
/-- knows, must, must not -/
theorem word_agree {n k v : Nat} {f : Nat → Int32} {pe : Int32} {r r' : Nat → Int32} (hn : n ≤ 400) (hk : k < n) (hv : v ≤ 10) (hr : ∀ j : Nat, j < 4 → r' (4 * v + j) = r j) :
    (nOk n f k pe = 0 ∧ bOk n f (k + 1) (pe - 1) 1 = 0 ∧ bF n f (k + 1) (pe - 1) 1 = nI (nK n f k pe)) ∨
    (nOk n f k pe = 1 ∧ bOk n f (k + 1) (pe - 1) 1 = 0 ∧ bF n f (k + 1) (pe - 1) 1 = nI (nK n f k pe) ∧ DG n f (nK n f k pe)) ∨
    (nOk n f k pe = 1 ∧ bOk n f (k + 1) (pe - 1) 1 = 1 ∧ bK n f (k + 1) (pe - 1) 1 = nK n f k pe ∧ ∀ j : Nat, j < 4 → bG n f (k + 1) v (pe - 1) 1 r' (4 * v + j) = nG n f k pe r j) := by
  rcases num_tri (f := f) 0 (pe - 1) (-1) hn (show k + 1 ≤ n by omega) z_n0 with ⟨a1, a2, a3⟩ | ⟨a1, a2, a3, a4, a5, a6, a7, a8⟩
  · obtain ⟨b1, b2, -⟩ := nw_0 (r := r) (show nP n f k pe = -1 from a1)
    obtain ⟨c1, -, c3, -⟩ := bJ_1 (v := v) (h := 1) (N := 0) (r := r') a2
    exact Or.inl ⟨b1, c1, by rw [c3, a3, b2]⟩
  · have eK : nPk n f k pe = nk2 n f (k + 1) + 1 := a5
    rcases a8 with ⟨d1, d2, d3⟩ | d1
    · obtain ⟨e1, e2⟩ := DG_no (lo := 0) (hi := 3) (un := -1) hn a7 d3
      have e1 : nN n f k pe = -1 := by show numr n f (nPk n f k pe) 0 3 (-1) = -1; rw [eK]; exact e1
      have e2 : nNk n f k pe = nk2 n f (k + 1) + 1 := by show nump n f (nPk n f k pe) 0 3 (-1) = _; rw [eK]; exact e2
      obtain ⟨b1, b2, -⟩ := nw_1 (r := r) (show ¬ nP n f k pe = -1 from a1) (by rw [e1]; decide)
      obtain ⟨c1, -, c3, -⟩ := bJ_1 (v := v) (h := 1) (N := 0) (r := r') d1
      exact Or.inl ⟨b1, c1, by rw [c3, d2, b2, e2]⟩
    · rcases num_tri (f := f) 0 3 (-1) hn a7 z_n0 with ⟨g1, g2, g3⟩ | ⟨g1, g2, g3, g4, g5', g6, g7, g8⟩
      · have e1 : nN n f k pe = -1 := by show numr n f (nPk n f k pe) 0 3 (-1) = -1; rw [eK]; exact g1
        have e2 : nNk n f k pe = nump n f (nk2 n f (k + 1) + 1) 0 3 (-1) := by show nump n f (nPk n f k pe) 0 3 (-1) = _; rw [eK]
        obtain ⟨b1, b2, -⟩ := nw_1 (r := r) (show ¬ nP n f k pe = -1 from a1) (by rw [e1]; decide)
        obtain ⟨c1, -, c3, -⟩ := bJ_2 (v := v) (h := 1) (N := 0) (r := r') d1 (by decide) (by show rnr n f (rna n f (k + 1)) 0 3 (-1) = 0; rw [a6]; exact g2)
        refine Or.inl ⟨b1, c1, ?_⟩
        rw [c3, b2, e2]
        show rnf n f (rna n f (k + 1)) 0 3 (-1) (-1) = _
        rw [a6]; exact g3
      · have e1 : nN n f k pe = nval n f (nk2 n f (k + 1) + 1) := by show numr n f (nPk n f k pe) 0 3 (-1) = _; rw [eK]; exact g4
        have e2 : nNk n f k pe = nk2 n f (nk2 n f (k + 1) + 1) + 1 := by show nump n f (nPk n f k pe) 0 3 (-1) = _; rw [eK]; exact g5'
        have h0 : ¬ nN n f k pe < 0 := by rw [e1, ← g4]; exact g2
        obtain ⟨b1, b2, b3⟩ := nw_2 (r := r) (show ¬ nP n f k pe = -1 from a1) h0
        rcases g8 with ⟨q1, q2, q3⟩ | q1
        · obtain ⟨c1, -, c3, -⟩ := bJ_2 (v := v) (h := 1) (N := 0) (r := r') d1 (by decide) (by show rnr n f (rna n f (k + 1)) 0 3 (-1) = 0; rw [a6]; exact q1)
          refine Or.inr (Or.inl ⟨b1, c1, ?_, by rw [b2, e2]; exact q3⟩)
          rw [c3, b2, e2]
          show rnf n f (rna n f (k + 1)) 0 3 (-1) (-1) = _
          rw [a6]; exact q2
        · obtain ⟨c1, c2, -, -, c5⟩ := bJ_4 (v := v) (h := 1) (N := 0) (r := r') d1 (by decide) (by show ¬ rnr n f (rna n f (k + 1)) 0 3 (-1) = 0; rw [a6]; exact q1)
          have ev : va2 n f (k + 1) = nN n f k pe := by rw [e1]; show nval n f (rna n f (k + 1)) = _; rw [a6]
          have ep : va1 n f (k + 1) = nP n f k pe := a4.symm
          obtain ⟨x, hx, ex⟩ := nI_of2 (M := 3) (n := 3) (by decide) h0 (by rw [e1, ← g4]; exact Int32.not_lt.mp g3)
          refine Or.inr (Or.inr ⟨b1, c1, ?_, fun j hj => ?_⟩)
          · rw [c2, b2, e2]
            show rna n f (rna n f (k + 1)) = _
            rw [a6]; exact g6
          · rw [c5, b3, ev, ep, ex, nI_add, nI_clamp (by omega), nI_clamp (by omega), hr x (by omega)]
            by_cases hjx : j = x
            · subst hjx; rw [upd_eq, upd_eq]
            · rw [upd_ne (by omega), upd_ne hjx]; exact hr j hj
/-- deaf -/
theorem deaf_agree {n k v : Nat} {f : Nat → Int32} {pe : Int32} {d : Int32} {r' : Nat → Int32} (hn : n ≤ 400) (hk : k < n) (hr : r' v = d) :
    (dfOk n f k pe = 0 ∧ bOk n f (k + 1) (pe - 1) 0 = 0 ∧ bF n f (k + 1) (pe - 1) 0 = nI (nPk n f k pe)) ∨
    (dfOk n f k pe = 1 ∧ bOk n f (k + 1) (pe - 1) 0 = 0 ∧ bF n f (k + 1) (pe - 1) 0 = nI (nPk n f k pe) ∧ DG n f (nPk n f k pe)) ∨
    (dfOk n f k pe = 1 ∧ bOk n f (k + 1) (pe - 1) 0 = 1 ∧ bK n f (k + 1) (pe - 1) 0 = nPk n f k pe ∧ bG n f (k + 1) v (pe - 1) 0 r' v = dD n f k pe d) := by
  rcases num_tri (f := f) 0 (pe - 1) (-1) hn (show k + 1 ≤ n by omega) z_n0 with ⟨a1, a2, a3⟩ | ⟨a1, a2, a3, a4, a5, a6, a7, a8⟩
  · obtain ⟨c1, -, c3, -⟩ := bJ_1 (v := v) (h := 0) (N := 0) (r := r') a2
    exact Or.inl ⟨if_pos a1, c1, by rw [c3, a3]⟩
  · have eK : nPk n f k pe = nk2 n f (k + 1) + 1 := a5
    rcases a8 with ⟨d1, d2, d3⟩ | d1
    · obtain ⟨c1, -, c3, -⟩ := bJ_1 (v := v) (h := 0) (N := 0) (r := r') d1
      exact Or.inr (Or.inl ⟨if_neg a1, c1, by rw [c3, d2, eK], by rw [eK]; exact d3⟩)
    · obtain ⟨c1, c2, -, -, c5⟩ := bJ_3 (v := v) (h := 0) (N := 0) (r := r') d1 rfl
      refine Or.inr (Or.inr ⟨if_neg a1, c1, by rw [c2, eK]; exact a6, ?_⟩)
      rw [c5, upd_eq, hr, dD, if_neg a1, show va1 n f (k + 1) = nP n f k pe from a4.symm]
set_option maxHeartbeats 8000000 in
/-- a line -/
theorem line_agree {n k c : Nat} {f : Nat → Int32} {pe : Int32} (hn : n ≤ 400) (hk : k < n) (hc : c < 12) :
    (lOk n f k pe c = 0 ∧ mOk n f (k + 1) (pe - 1) = 0 ∧ mF n f (k + 1) (pe - 1) = nI (lK n f k pe c)) ∨
    (lOk n f k pe c = 1 ∧ mOk n f (k + 1) (pe - 1) = 0 ∧ mF n f (k + 1) (pe - 1) = nI (lK n f k pe c) ∧ DG n f (lK n f k pe c)) ∨
    (lOk n f k pe c = 1 ∧ mOk n f (k + 1) (pe - 1) = 1 ∧ mK n f (k + 1) (pe - 1) = lK n f k pe c ∧ mJ n f (k + 1) (pe - 1) = 5 ∧ lJ n f k pe c = 5 ∧ va1 n f (k + 1) = lA n f k pe ∧ va2 n f (k + 1) = lB n f k pe ∧ va3 n f (k + 1) = lF n f k pe ∧ va4 n f (k + 1) = lT n f k pe) := by
  have hc' : ¬ 12 ≤ c := by omega
  rcases num_tri (f := f) 0 (pe - 1) (-1) hn (show k + 1 ≤ n by omega) z_n0 with ⟨a1, a2, a3⟩ | ⟨a1, a2, a3, a4, a5, a6, a7, a8⟩
  · obtain ⟨b1, b2⟩ := lJ_1 (c := c) hc' (show lA n f k pe = -1 from a1)
    obtain ⟨c1, -, c3, -⟩ := mJ_1 (N := 0) a2
    exact Or.inl ⟨(lJ_n (o := 0) (L := fun _ => 0) b1 (by decide)).1, mOk_n (by rw [c1]; decide), by rw [c3, a3, b2]⟩
  have hA : ¬ lA n f k pe = -1 := a1
  have eA : lAk n f k pe = nk2 n f (k + 1) + 1 := a5
  have vA : va1 n f (k + 1) = lA n f k pe := a4.symm
  have r1 : ra1 n f (k + 1) = lAk n f k pe := a6.trans eA.symm
  have l1 : lAk n f k pe ≤ n := by rw [eA]; exact a7
  rcases a8 with ⟨d1, d2, d3⟩ | d1
  · rw [← eA] at d2 d3
    obtain ⟨e1, e2⟩ := DG_no (lo := 0) (hi := pe - 1) (un := lA n f k pe) hn l1 d3
    obtain ⟨b1, b2⟩ := lJ_2 (c := c) hc' hA (show lB n f k pe = -1 from e1)
    obtain ⟨c1, -, c3, -⟩ := mJ_1 (N := 0) d1
    exact Or.inl ⟨(lJ_n (o := 0) (L := fun _ => 0) b1 (by decide)).1, mOk_n (by rw [c1]; decide), by rw [c3, d2, b2]; exact congrArg nI e2.symm⟩
  rcases num_tri (f := f) 0 (pe - 1) (lA n f k pe) hn l1 z_n0 with ⟨a1, a2, a3⟩ | ⟨a1, a2, a3, a4, a5, a6, a7, a8⟩
  · obtain ⟨b1, b2⟩ := lJ_2 (c := c) hc' hA (show lB n f k pe = -1 from a1)
    obtain ⟨c1, -, c3, -⟩ := mJ_2 (N := 0) d1 (by rw [r1, vA]; exact a2)
    exact Or.inl ⟨(lJ_n (o := 0) (L := fun _ => 0) b1 (by decide)).1, mOk_n (by rw [c1]; decide), by rw [c3, r1, vA, a3, b2]⟩
  have hB : ¬ lB n f k pe = -1 := a1
  have eB : lBk n f k pe = nk2 n f (lAk n f k pe) + 1 := a5
  have vB : va2 n f (k + 1) = lB n f k pe := by show nval n f (ra1 n f (k + 1)) = _; rw [r1]; exact a4.symm
  have r2 : ra2 n f (k + 1) = lBk n f k pe := by show rna n f (ra1 n f (k + 1)) = _; rw [r1]; exact a6.trans eB.symm
  have l2 : lBk n f k pe ≤ n := by rw [eB]; exact a7
  have m2 : (rnr n f (lAk n f k pe) 0 (pe - 1) (lA n f k pe) = 0) = (rnr n f (ra1 n f (k + 1)) 0 (pe - 1) (va1 n f (k + 1)) = 0) := by rw [r1, vA]
  rcases a8 with ⟨d2, d3, d4⟩ | d2
  · rw [← eB] at d3 d4
    obtain ⟨e1, e2⟩ := DG_no (lo := 1) (hi := 24) (un := -1) hn l2 d4
    obtain ⟨b1, b2⟩ := lJ_3 (c := c) hc' hA hB (show lF n f k pe = -1 from e1)
    obtain ⟨c1, -, c3, -⟩ := mJ_2 (N := 0) d1 (m2.mp d2)
    exact Or.inl ⟨(lJ_n (o := 0) (L := fun _ => 0) b1 (by decide)).1, mOk_n (by rw [c1]; decide), by rw [c3, r1, vA, d3, b2]; exact congrArg nI e2.symm⟩
  have d2 : ¬ rnr n f (ra1 n f (k + 1)) 0 (pe - 1) (va1 n f (k + 1)) = 0 := fun q => d2 (m2.mpr q)
  rcases num_tri (f := f) 1 24 (-1) hn l2 z_n1 with ⟨a1, a2, a3⟩ | ⟨a1, a2, a3, a4, a5, a6, a7, a8⟩
  · obtain ⟨b1, b2⟩ := lJ_3 (c := c) hc' hA hB (show lF n f k pe = -1 from a1)
    obtain ⟨c1, -, c3, -⟩ := mJ_3 (N := 0) d1 d2 (by rw [r2]; exact a2)
    exact Or.inl ⟨(lJ_n (o := 0) (L := fun _ => 0) b1 (by decide)).1, mOk_n (by rw [c1]; decide), by rw [c3, r2, a3, b2]⟩
  have hF : ¬ lF n f k pe = -1 := a1
  have hF0 : ¬ lF n f k pe < 0 := fun q => a2 (Int32.lt_trans q (by decide))
  have eF : lFk n f k pe = nk2 n f (lBk n f k pe) + 1 := a5
  have vF : va3 n f (k + 1) = lF n f k pe := by show nval n f (ra2 n f (k + 1)) = _; rw [r2]; exact a4.symm
  have r3 : ra3 n f (k + 1) = lFk n f k pe := by show rna n f (ra2 n f (k + 1)) = _; rw [r2]; exact a6.trans eF.symm
  have l3 : lFk n f k pe ≤ n := by rw [eF]; exact a7
  have m3 : (rnr n f (lBk n f k pe) 1 24 (-1) = 0) = (rnr n f (ra2 n f (k + 1)) 1 24 (-1) = 0) := by rw [r2]
  rcases a8 with ⟨d3, d4, d5⟩ | d3
  · rw [← eF] at d4 d5
    obtain ⟨e1, e2⟩ := DG_no (lo := lF n f k pe) (hi := 24) (un := -1) hn l3 d5
    obtain ⟨b1, b2⟩ := lJ_4 (c := c) hc' hA hB hF (show lT n f k pe = -1 from e1)
    obtain ⟨c1, -, c3, -⟩ := mJ_3 (N := 0) d1 d2 (m3.mp d3)
    exact Or.inl ⟨(lJ_n (o := 0) (L := fun _ => 0) b1 (by decide)).1, mOk_n (by rw [c1]; decide), by rw [c3, r2, d4, b2]; exact congrArg nI e2.symm⟩
  have d3 : ¬ rnr n f (ra2 n f (k + 1)) 1 24 (-1) = 0 := fun q => d3 (m3.mpr q)
  rcases num_tri (f := f) (lF n f k pe) 24 (-1) hn l3 hF0 with ⟨a1, a2, a3⟩ | ⟨a1, a2, a3, a4, a5, a6, a7, a8⟩
  · obtain ⟨b1, b2⟩ := lJ_4 (c := c) hc' hA hB hF (show lT n f k pe = -1 from a1)
    obtain ⟨c1, -, c3, -⟩ := mJ_4 (N := 0) d1 d2 d3 (by rw [r3, vF]; exact a2)
    exact Or.inl ⟨(lJ_n (o := 0) (L := fun _ => 0) b1 (by decide)).1, mOk_n (by rw [c1]; decide), by rw [c3, r3, vF, a3, b2]⟩
  have hT : ¬ lT n f k pe = -1 := a1
  have eT : lTk n f k pe = nk2 n f (lFk n f k pe) + 1 := a5
  have vT : va4 n f (k + 1) = lT n f k pe := by show nval n f (ra3 n f (k + 1)) = _; rw [r3]; exact a4.symm
  have r4 : ra4 n f (k + 1) = lTk n f k pe := by show rna n f (ra3 n f (k + 1)) = _; rw [r3]; exact a6.trans eT.symm
  have m4 : (rnr n f (lFk n f k pe) (lF n f k pe) 24 (-1) = 0) = (rnr n f (ra3 n f (k + 1)) (va3 n f (k + 1)) 24 (-1) = 0) := by rw [r3, vF]
  obtain ⟨⟨b1, b2⟩, b3, -⟩ := lJ_5 (o := 0) (L := fun _ => 0) hc' hA hB hF hT
  rcases a8 with ⟨d4, d5, d6⟩ | d4
  · rw [← eT] at d5 d6
    obtain ⟨c1, -, c3, -⟩ := mJ_4 (N := 0) d1 d2 d3 (m4.mp d4)
    exact Or.inr (Or.inl ⟨b3, mOk_n (by rw [c1]; decide), by rw [c3, r3, vF, d5, b2], by rw [b2]; exact d6⟩)
  have d4 : ¬ rnr n f (ra3 n f (k + 1)) (va3 n f (k + 1)) 24 (-1) = 0 := fun q => d4 (m4.mpr q)
  obtain ⟨c1, c2, -⟩ := mJ_5 (N := 0) d1 d2 d3 d4
  exact Or.inr (Or.inr ⟨b3, if_pos c1, by rw [c2, b2, r4], c1, b1, vA, vB, vF, vT⟩)

/-! the lines that a text tells have two ends -/
def NLr (c : Nat) (L : Nat → Int32) : Prop := ∀ j : Nat, j < c → ¬ L (j * 6) = L (j * 6 + 1)
theorem lL_nl {n k c : Nat} {f L : Nat → Int32} {pe o : Int32} (h : NLr c L) : NLr (lC n f k pe c) (lL n f k pe c o L) := by
  unfold lL lC
  by_cases h5 : lJ n f k pe c = 5
  · rw [if_pos h5, if_pos h5]
    obtain ⟨g0, g1, g2, g3, g4⟩ := lJ_y h5
    have ne : ¬ lA n f k pe = lB n f k pe := fun q => (numr_in g2).2.2 q.symm
    intro j hj
    unfold ln6
    by_cases e : j = c
    · subst e
      rw [upd_ne (by omega), upd_ne (by omega), upd_ne (by omega), upd_ne (by omega), upd_ne (by omega), show j * 6 = j * 6 + 0 from rfl, upd_eq, upd_ne (by omega), upd_ne (by omega), upd_ne (by omega), upd_ne (by omega), show j * 6 + 0 + 1 = j * 6 + 1 from rfl, upd_eq]
      exact ne
    · rw [upd_ne (by omega), upd_ne (by omega), upd_ne (by omega), upd_ne (by omega), upd_ne (by omega), upd_ne (by omega), upd_ne (by omega), upd_ne (by omega), upd_ne (by omega), upd_ne (by omega), upd_ne (by omega), upd_ne (by omega)]
      exact h j (by omega)
  · rw [if_neg h5, if_neg h5]
    exact h
theorem stm_nl {n : Nat} {f : Nat → Int32} {pe : Int32} {S : TXT} (h : NLr S.2.1 S.2.2.2.2.2.2) : NLr (stm n f pe S).2.2.1 (stm n f pe S).2.2.2.2.2.2.2 := by
  by_cases h1 : atv n f (nI S.1) = 108
  · rw [stm_l h1]; exact lL_nl h
  by_cases h2 : atv n f (nI S.1) = 111
  · rw [stm_o h2]; exact lL_nl h
  by_cases h3 : atv n f (nI S.1) = 107
  · rw [stm_k h3]; exact h
  by_cases h4 : atv n f (nI S.1) = 119
  · rw [stm_w h4]; exact h
  by_cases h5 : atv n f (nI S.1) = 115
  · rw [stm_s h5]; exact h
  by_cases h6 : atv n f (nI S.1) = 100
  · rw [stm_d h6]; exact h
  rw [stm_0 h1 h2 h3 h4 h5 h6]; exact h
theorem rdl_nl {n : Nat} {f : Nat → Int32} {pe : Int32} : ∀ (m : Nat) (S : TXT), NLr S.2.1 S.2.2.2.2.2.2 → NLr (rdl n f pe m S).2.2.1 (rdl n f pe m S).2.2.2.2.2.2.2
  | 0, S, h => h
  | m + 1, S, h => by
    rw [rdl]
    have h3 := stm_nl (n := n) (f := f) (pe := pe) (S := (skn n f (S.1 + 1), S.2)) h
    by_cases h1 : n ≤ S.1
    · rw [if_pos h1]; exact h
    · rw [if_neg h1]
      by_cases h2 : atv n f (nI S.1) = 59
      · rw [if_neg (fun q => q h2)]
        by_cases h5 : (stm n f pe (skn n f (S.1 + 1), S.2)).1 = 0
        · rw [if_pos h5]; exact h3
        · rw [if_neg h5]; exact rdl_nl m _ h3
      · rw [if_pos h2]; exact h
theorem rdx_nl {n : Nat} {f L : Nat → Int32} : NLr (rdx n f L).2.2.2.1 (rdx n f L).2.2.2.2.2.2.2.2 := by
  have z : ∀ L' : Nat → Int32, NLr 0 L' := fun L' j hj => absurd hj (Nat.not_lt_zero _)
  unfold rdx
  by_cases h1 : atv n f (nI (skn n f 0)) = 112
  · rw [if_neg (fun q => q h1)]
    by_cases h2 : numr n f (skn n f 0 + 1) 1 7 (-1) = -1
    · rw [if_pos h2]; exact z _
    · rw [if_neg h2]; exact rdl_nl _ _ (z _)
  · rw [if_pos h1]; exact z _
theorem nl_of {w : VV} (ok : VOK w) (h : NLr w.lc w.L) : NL0 w := fun j hj q => by
  obtain ⟨e1, e2, _, _⟩ := ends_at ok.2.2.1 ok.1 hj
  exact h j hj (by rw [e1, e2, q])
/-! who knows news at first is one of the people -/
def KNr (p : Nat) (r : Nat → Int32) : Prop := ∀ j i : Nat, i < 32 → bt (r j) i = true → i < p
theorem nG_kn {n k p : Nat} {f r : Nat → Int32} (hp : p ≤ 7) (h : KNr p r) : KNr p (nG n f k (nI p) r) := by
  unfold nG
  by_cases h1 : nP n f k (nI p) = -1
  · rw [if_pos h1]; exact h
  · rw [if_neg h1]
    by_cases h2 : nN n f k (nI p) < 0
    · rw [if_pos h2]; exact h
    · rw [if_neg h2]
      have g := numr_in h1
      obtain ⟨q1, q2⟩ := pm1_at (x := nP n f k (nI p)) (P := nI p) (n := p) rfl (by omega) (Int32.not_lt.mp g.1) (Int32.not_lt.mp g.2.1)
      intro j i hi hb
      by_cases e : j = (nN n f k (nI p)).toNatClampNeg
      · subst e
        rw [upd_eq, q1, b_or, b_sh1 (by omega) hi, Bool.or_eq_true, decide_eq_true_eq] at hb
        rcases hb with hb | hb
        · exact h _ i hi hb
        · omega
      · rw [upd_ne e] at hb
        exact h j i hi hb
theorem stm_kn {n p : Nat} {f : Nat → Int32} {S : TXT} (hp : p ≤ 7) (h : KNr p S.2.2.2.1) : KNr p (stm n f (nI p) S).2.2.2.2.1 := by
  by_cases h1 : atv n f (nI S.1) = 108
  · rw [stm_l h1]; exact h
  by_cases h2 : atv n f (nI S.1) = 111
  · rw [stm_o h2]; exact h
  by_cases h3 : atv n f (nI S.1) = 107
  · rw [stm_k h3]; exact nG_kn hp h
  by_cases h4 : atv n f (nI S.1) = 119
  · rw [stm_w h4]; exact h
  by_cases h5 : atv n f (nI S.1) = 115
  · rw [stm_s h5]; exact h
  by_cases h6 : atv n f (nI S.1) = 100
  · rw [stm_d h6]; exact h
  rw [stm_0 h1 h2 h3 h4 h5 h6]; exact h
theorem rdl_kn {n p : Nat} {f : Nat → Int32} (hp : p ≤ 7) : ∀ (m : Nat) (S : TXT), KNr p S.2.2.2.1 → KNr p (rdl n f (nI p) m S).2.2.2.2.1
  | 0, S, h => h
  | m + 1, S, h => by
    rw [rdl]
    have h3 := stm_kn (n := n) (f := f) (S := (skn n f (S.1 + 1), S.2)) hp h
    by_cases h1 : n ≤ S.1
    · rw [if_pos h1]; exact h
    · rw [if_neg h1]
      by_cases h2 : atv n f (nI S.1) = 59
      · rw [if_neg (fun q => q h2)]
        by_cases h5 : (stm n f (nI p) (skn n f (S.1 + 1), S.2)).1 = 0
        · rw [if_pos h5]; exact h3
        · rw [if_neg h5]; exact rdl_kn hp m _ h3
      · rw [if_pos h2]; exact h
theorem rdx_kn {n p : Nat} {f L : Nat → Int32} (hp : p ≤ 7) (e : (rdx n f L).2.1 = nI p) : KNr p (rdx n f L).2.2.2.2.2.1 := by
  have z : KNr p (fun _ => 0) := fun j i hi hb => by rw [b_0] at hb; cases hb
  unfold rdx at e ⊢
  by_cases h1 : atv n f (nI (skn n f 0)) = 112
  · rw [if_neg (fun q => q h1)] at e ⊢
    by_cases h2 : numr n f (skn n f 0 + 1) 1 7 (-1) = -1
    · rw [if_pos h2]; exact z
    · rw [if_neg h2] at e ⊢
      have e : numr n f (skn n f 0 + 1) 1 7 (-1) = nI p := e
      show KNr p (rdl n f (numr n f (skn n f 0 + 1) 1 7 (-1)) (n + 1) _).2.2.2.2.1
      rw [e]
      exact rdl_kn hp _ _ z
  · rw [if_pos h1]; exact z
theorem txw_nl {n : Nat} {f : Nat → Int32} {w : VV} (h : TXW n f w) : NLP w := by
  obtain ⟨L, _, e0, e1, _, e3, _, _, e2, _, _, ok⟩ := h
  refine ⟨nl_of ok ?_, fun j i hj hi hb => ?_⟩
  · rw [e1, e2]
    exact rdx_nl
  · rw [e3] at hb
    exact rdx_kn ok.1 e0 j i hi hb
theorem nl_down0 {w : VV} {y z : Int32} (h : NL0 w) : NL0 (w.sL (F_X11_down1 w.lc w.L (kx w) y z).2.1) := fun j hj => by
  have u : ¬ lnA (upd w.L (tN y * 6 + 5) z) j = lnB (upd w.L (tN y * 6 + 5) z) j := by
    unfold lnA lnB
    rw [upd_ne (by omega), upd_ne (by omega)]
    exact h j hj
  show ¬ lnA (F_X11_down1 w.lc w.L (kx w) y z).2.1 j = lnB (F_X11_down1 w.lc w.L (kx w) y z).2.1 j
  unfold F_X11_down1
  by_cases h1 : F_X10_hasLine (nI w.lc) y = 0
  · rw [if_pos h1]; exact h j hj
  · rw [if_neg h1]
    by_cases h2 : z = -1
    · rw [if_pos h2]; exact u
    · rw [if_neg h2]
      by_cases h3 : F_X11_isHour z = 0
      · rw [if_pos h3]; exact h j hj
      · rw [if_neg h3]; exact u
theorem nl_down {w : VV} {y z : Int32} (h : NLP w) : NLP (w.sL (F_X11_down1 w.lc w.L (kx w) y z).2.1) := ⟨nl_down0 h.1, h.2⟩
/-! what both sides hold of the valleys and the plans, all the way -/
theorem plx_vnew {nv np : Nat} {V : Nat → VV} {P : Nat → PP} {x : Int32} {f : VV → VV} (h : PLX nv V np P) (hp : ∀ w : VV, (f w).p = w.p) (hn : ∀ w : VV, NLP w → NLP (f w)) : PLX nv (vNew nv V x f) np P := by
  refine ⟨plw_vnew h.1 hp, h.2.1, fun i hi => ?_⟩
  unfold vNew
  split
  · exact h.2.2 i hi
  · rename_i hv
    by_cases e : i = tN x
    · subst e; rw [vset_eq]; exact hn _ (h.2.2 _ hi)
    · rw [vset_ne e]; exact h.2.2 i hi
theorem plx_call {nv np : Nat} {V : Nat → VV} {P : Nat → PP} {x ho ki on ot : Int32} (h : PLX nv V np P) : PLX nv V np (cNew np V P x ho ki on ot) := by
  refine ⟨plw_call h.1, ?_, h.2.2⟩
  unfold cNew
  split
  · exact h.2.1
  · split
    · exact h.2.1
    · rename_i hf
      intro j hj
      by_cases e : j = tN x
      · subst e; rw [pset_eq]; exact ord_call (h.1 _ hj).2 (h.2.1 _ hj) hf
      · rw [pset_ne e]; exact h.2.1 j hj
theorem plx_plan {nv np : Nat} {V : Nat → VV} {P : Nat → PP} {x : Int32} (hnv : nv ≤ 10) (h : PLX nv V np P) : PLX nv V (pNum nv np x) (pNew nv np P x) := by
  refine ⟨plw_plan hnv h.1, ?_, h.2.2⟩
  unfold pNum pNew
  split
  · intro j hj
    by_cases e : j = np
    · subst e; rw [pset_eq]; exact ord_zero
    · rw [pset_ne e]; exact h.2.1 j (by omega)
  · exact h.2.1
theorem plx_vlr {n nv np : Nat} {f : Nat → Int32} {V V' : Nat → VV} {P : Nat → PP} (h : PLX nv V np P) (hv : VLR n f nv V V') : PLX (vlM n f nv) V' np P := by
  rcases hv with ⟨h1, w, hw, rfl⟩ | ⟨h1, rfl⟩
  · rw [vlM_y h1]
    refine ⟨plw_more h.1 (Nat.le_succ _), h.2.1, fun i hi => ?_⟩
    by_cases e : i = nv
    · subst e; rw [vset_eq]; exact txw_nl hw
    · rw [vset_ne e]; exact h.2.2 i (by omega)
  · rw [vlM_n h1]; exact h
theorem plx_0 {V : Nat → VV} {P : Nat → PP} : PLX 0 V 0 P := ⟨fun j hj => absurd hj (Nat.not_lt_zero _), fun j hj => absurd hj (Nat.not_lt_zero _), fun i hi => absurd hi (Nat.not_lt_zero _)⟩

/-! what the readings leave lies in its bounds -/
def b7 (x : Int32) : Prop := ∃ k : Nat, k < 128 ∧ x = nI k
theorem b7_0 : b7 0 := ⟨0, by omega, rfl⟩
theorem sh7 : ∀ a : Nat, a < 7 → (1 : Int32) <<< (nI a &&& 31) = nI (2 ^ a) := by decide +kernel
theorem b7_or {x : Int32} {a : Nat} (h : b7 x) (ha : a < 7) : b7 (x ||| ((1 : Int32) <<< (nI a &&& 31))) := by
  obtain ⟨k, hk, rfl⟩ := h
  refine ⟨k ||| 2 ^ a, ?_, by rw [sh7 a ha, fa_or]⟩
  have h2 : 2 ^ a < 2 ^ 7 := Nat.pow_lt_pow_right (by decide) ha
  exact Nat.or_lt_two_pow (n := 7) hk h2
theorem b7_av {g : GG} {Γ : Nat → Nat} {x : Int32} (h : b7 x) : avi g Γ (0, .ofNat 0, .ofNat 127) (.int x) := by
  obtain ⟨k, hk, rfl⟩ := h
  exact avi_nI (by omega) (by omega) (by decide)
theorem num_b {n k lo hi : Nat} {f : Nat → Int32} {un x y : Int32} (ex : x = nI lo) (ey : y = nI hi) (hl : lo < 2 ^ 31) (hh : hi < 2 ^ 31) (h : ¬ numr n f k x y un = -1) : ∃ a : Nat, lo ≤ a ∧ a ≤ hi ∧ numr n f k x y un = nI a := by
  obtain ⟨h1, h2, -⟩ := numr_in h
  subst ex ey
  rw [fa_lt, nI_toInt hl] at h1
  rw [fa_lt, nI_toInt hh] at h2
  exact ⟨(numr n f k (nI lo) (nI hi) un).toInt.toNat, by omega, by omega, Int32.toInt_inj.mp (by rw [nI_toInt (by omega)]; omega)⟩
theorem pe_1 {p : Nat} (h : 1 ≤ p) : nI p - 1 = nI (p - 1) := nI_s1 h
/-- a person's number that was read -/
theorem num_p {n k p : Nat} {f : Nat → Int32} {un : Int32} (hp : 1 ≤ p) (hp7 : p ≤ 7) (h : ¬ numr n f k 0 (nI p - 1) un = -1) : ∃ a : Nat, a < p ∧ numr n f k 0 (nI p - 1) un = nI a := by
  obtain ⟨a, -, h2, h3⟩ := num_b (lo := 0) (hi := p - 1) rfl (pe_1 hp) (by decide) (by omega) h
  exact ⟨a, by omega, h3⟩
def lspF (L : Nat → Int32) : Prop := ∀ j : Nat, j < 72 → (lsp (j % 6)).1 ≤ (L j).toInt ∧ (L j).toInt ≤ (lsp (j % 6)).2
theorem lspF_upd {L : Nat → Int32} {c r : Nat} {x : Int32} (h : lspF L) (hr : r < 6) (h1 : (lsp r).1 ≤ x.toInt) (h2 : x.toInt ≤ (lsp r).2) : lspF (upd L (c * 6 + r) x) := fun j hj => by
  by_cases e : j = c * 6 + r
  · subst e
    simp only [upd, if_true]
    rw [show (c * 6 + r) % 6 = r by omega]
    exact ⟨h1, h2⟩
  · simp only [upd, e, if_false]
    exact h j hj
theorem lsp_nI {r k : Nat} (hk : k < 2 ^ 31) (h1 : (lsp r).1 ≤ (k : Int)) (h2 : (k : Int) ≤ (lsp r).2) : (lsp r).1 ≤ (nI k).toInt ∧ (nI k).toInt ≤ (lsp r).2 := by
  rw [nI_toInt hk]; exact ⟨h1, h2⟩
theorem ln6_ok {L : Nat → Int32} {c a b x y o : Nat} (h : lspF L) (ha : a ≤ 6) (hb : b ≤ 6) (hx : x ≤ 24) (hy : y ≤ 24) (ho : o ≤ 1) : lspF (ln6 L c (nI a) (nI b) (nI x) (nI y) (nI o)) := by
  unfold ln6
  have q0 := lsp_nI (r := 0) (k := a) (by omega) (show (0 : Int) ≤ _ by omega) (show _ ≤ (6 : Int) by omega)
  have q1 := lsp_nI (r := 1) (k := b) (by omega) (show (0 : Int) ≤ _ by omega) (show _ ≤ (6 : Int) by omega)
  have q2 := lsp_nI (r := 2) (k := x) (by omega) (show (0 : Int) ≤ _ by omega) (show _ ≤ (24 : Int) by omega)
  have q3 := lsp_nI (r := 3) (k := y) (by omega) (show (0 : Int) ≤ _ by omega) (show _ ≤ (24 : Int) by omega)
  have q4 := lsp_nI (r := 4) (k := o) (by omega) (show (0 : Int) ≤ _ by omega) (show _ ≤ (1 : Int) by omega)
  exact lspF_upd (lspF_upd (lspF_upd (lspF_upd (lspF_upd (lspF_upd h (by omega) q0.1 q0.2) (by omega) q1.1 q1.2) (by omega) q2.1 q2.2) (by omega) q3.1 q3.2) (by omega) q4.1 q4.2) (by omega) (by decide) (by decide)
theorem ln6_ends {L : Nat → Int32} {c p a b : Nat} {x y o : Int32} (h : endsIn L c p) (ha : a < p) (hb : b < p) : endsIn (ln6 L c (nI a) (nI b) x y o) (c + 1) p := fun i hi => by
  unfold ln6
  by_cases e : i = c
  · subst e
    refine ⟨a, b, ha, hb, ?_, ?_⟩
    · rw [upd_ne (by omega), upd_ne (by omega), upd_ne (by omega), upd_ne (by omega), upd_ne (by omega)]; exact upd_eq
    · rw [upd_ne (by omega), upd_ne (by omega), upd_ne (by omega), upd_ne (by omega)]; exact upd_eq
  · obtain ⟨a', b', h1, h2, h3, h4⟩ := h i (by omega)
    refine ⟨a', b', h1, h2, ?_, ?_⟩
    · rw [upd_ne (by omega), upd_ne (by omega), upd_ne (by omega), upd_ne (by omega), upd_ne (by omega), upd_ne (by omega)]; exact h3
    · rw [upd_ne (by omega), upd_ne (by omega), upd_ne (by omega), upd_ne (by omega), upd_ne (by omega), upd_ne (by omega)]; exact h4
def b4 (r : Nat → Int32) : Prop := ∀ j : Nat, j < 4 → b7 (r j)
theorem b4_upd {r : Nat → Int32} {k : Nat} {x : Int32} (h : b4 r) (hx : b7 x) : b4 (upd r k x) := fun j hj => by
  by_cases e : j = k
  · subst e; simp only [upd, if_true]; exact hx
  · simp only [upd, e, if_false]; exact h j hj
/-- what a text has told so far, in its bounds -/
def txok (p : Nat) (S : TXT) : Prop := S.1 ≤ 400 ∧ S.2.1 ≤ 12 ∧ b7 S.2.2.1 ∧ b4 S.2.2.2.1 ∧ b4 S.2.2.2.2.1 ∧ b4 S.2.2.2.2.2.1 ∧ lspF S.2.2.2.2.2.2 ∧ endsIn S.2.2.2.2.2.2 S.2.1 p
theorem nG_ok {n k p : Nat} {f r : Nat → Int32} (hp : 1 ≤ p) (hp7 : p ≤ 7) (h : b4 r) : b4 (nG n f k (nI p) r) := by
  unfold nG
  split
  · exact h
  · rename_i h1
    split
    · exact h
    · rename_i h2
      obtain ⟨a, ha, ea⟩ := num_p hp hp7 h1
      obtain ⟨b, -, hb, eb⟩ := num_b (x := 0) (y := 3) (lo := 0) (hi := 3) rfl rfl (by decide) (by decide) (neg_lt0 h2)
      refine b4_upd h ?_
      rw [show nN n f k (nI p) = nI b from eb, nI_clamp (by omega), show nP n f k (nI p) = nI a from ea]
      exact b7_or (h b (by omega)) (by omega)
theorem dD_ok {n k p : Nat} {f : Nat → Int32} {d : Int32} (hp : 1 ≤ p) (hp7 : p ≤ 7) (h : b7 d) : b7 (dD n f k (nI p) d) := by
  unfold dD
  split
  · exact h
  · rename_i h1
    obtain ⟨a, ha, ea⟩ := num_p hp hp7 h1
    rw [show nP n f k (nI p) = nI a from ea]
    exact b7_or h (by omega)
theorem lJ_y {n : Nat} {f : Nat → Int32} {k : Nat} {pe : Int32} {c : Nat} (h : lJ n f k pe c = 5) : c < 12 ∧ ¬ lA n f k pe = -1 ∧ ¬ lB n f k pe = -1 ∧ ¬ lF n f k pe = -1 ∧ ¬ lT n f k pe = -1 := by
  by_cases h0 : 12 ≤ c
  · rw [(lJ_0 h0).1] at h; omega
  by_cases h1 : lA n f k pe = -1
  · rw [(lJ_1 h0 h1).1] at h; omega
  by_cases h2 : lB n f k pe = -1
  · rw [(lJ_2 h0 h1 h2).1] at h; omega
  by_cases h3 : lF n f k pe = -1
  · rw [(lJ_3 h0 h1 h2 h3).1] at h; omega
  by_cases h4 : lT n f k pe = -1
  · rw [(lJ_4 h0 h1 h2 h3 h4).1] at h; omega
  exact ⟨by omega, h1, h2, h3, h4⟩
theorem lL_ok {n k p c o : Nat} {f L : Nat → Int32} (hp : 1 ≤ p) (hp7 : p ≤ 7) (hc : c ≤ 12) (ho : o ≤ 1) (h : lspF L) (he : endsIn L c p) : lspF (lL n f k (nI p) c (nI o) L) ∧ endsIn (lL n f k (nI p) c (nI o) L) (lC n f k (nI p) c) p ∧ lC n f k (nI p) c ≤ 12 := by
  unfold lL lC
  by_cases h5 : lJ n f k (nI p) c = 5
  · rw [if_pos h5, if_pos h5]
    obtain ⟨g0, g1, g2, g3, g4⟩ := lJ_y h5
    obtain ⟨a, ha, ea⟩ := num_p hp hp7 g1
    obtain ⟨b, hb, eb⟩ := num_p hp hp7 g2
    obtain ⟨x, hx1, hx2, ex⟩ := num_b (lo := 1) (hi := 24) rfl rfl (by decide) (by decide) g3
    have g4' := g4
    unfold lT at g4'
    rw [show lF n f k (nI p) = nI x from ex] at g4'
    obtain ⟨y, hy1, hy2, ey⟩ := num_b (lo := x) (hi := 24) rfl rfl (by omega) (by decide) g4'
    have eT : lT n f k (nI p) = nI y := by unfold lT; rw [show lF n f k (nI p) = nI x from ex]; exact ey
    rw [show lA n f k (nI p) = nI a from ea, show lB n f k (nI p) = nI b from eb, show lF n f k (nI p) = nI x from ex, eT]
    exact ⟨ln6_ok h (by omega) (by omega) (by omega) (by omega) ho, ln6_ends he ha hb, by omega⟩
  · rw [if_neg h5, if_neg h5]
    exact ⟨h, he, hc⟩
theorem stm_ok {n p : Nat} {f : Nat → Int32} {S : TXT} (hn : n ≤ 400) (hk : S.1 ≤ n) (hp : 1 ≤ p) (hp7 : p ≤ 7) (h : txok p S) : txok p (stm n f (nI p) S).2 := by
  have hle := stm_le (f := f) (pe := nI p) hn hk h.2.1
  obtain ⟨t1, t2, t3, t4, t5, t6, t7, t8⟩ := h
  have h400 : (stm n f (nI p) S).2.1 ≤ 400 := by omega
  by_cases h1 : atv n f (nI S.1) = 108
  · rw [stm_l h1] at h400 ⊢
    have := lL_ok (n := n) (k := S.1) (f := f) (o := 0) hp hp7 t2 (by omega) t7 t8
    exact ⟨h400, this.2.2, t3, t4, t5, t6, this.1, this.2.1⟩
  by_cases h2 : atv n f (nI S.1) = 111
  · rw [stm_o h2] at h400 ⊢
    have := lL_ok (n := n) (k := S.1) (f := f) (o := 1) hp hp7 t2 (by omega) t7 t8
    exact ⟨h400, this.2.2, t3, t4, t5, t6, this.1, this.2.1⟩
  by_cases h3 : atv n f (nI S.1) = 107
  · rw [stm_k h3] at h400 ⊢; exact ⟨h400, t2, t3, nG_ok hp hp7 t4, t5, t6, t7, t8⟩
  by_cases h4 : atv n f (nI S.1) = 119
  · rw [stm_w h4] at h400 ⊢; exact ⟨h400, t2, t3, t4, nG_ok hp hp7 t5, t6, t7, t8⟩
  by_cases h5 : atv n f (nI S.1) = 115
  · rw [stm_s h5] at h400 ⊢; exact ⟨h400, t2, t3, t4, t5, nG_ok hp hp7 t6, t7, t8⟩
  by_cases h6 : atv n f (nI S.1) = 100
  · rw [stm_d h6] at h400 ⊢; exact ⟨h400, t2, dD_ok hp hp7 t3, t4, t5, t6, t7, t8⟩
  rw [stm_0 h1 h2 h3 h4 h5 h6]
  exact ⟨t1, t2, t3, t4, t5, t6, t7, t8⟩
def f400 (x : Int32) : Prop := x = -1 ∨ ∃ k : Nat, k ≤ 400 ∧ x = nI k
theorem rdl_ok {n p : Nat} {f : Nat → Int32} (hn : n ≤ 400) (hp : 1 ≤ p) (hp7 : p ≤ 7) : ∀ (m : Nat) (S : TXT), S.1 ≤ n → txok p S → f400 (rdl n f (nI p) m S).1 ∧ txok p (rdl n f (nI p) m S).2
  | 0, S, _, h => ⟨Or.inl rfl, h⟩
  | m + 1, S, hk, h => by
    rw [rdl]
    by_cases h1 : n ≤ S.1
    · rw [if_pos h1]; exact ⟨Or.inl rfl, h⟩
    · rw [if_neg h1]
      by_cases h2 : atv n f (nI S.1) = 59
      · rw [if_neg (fun q => q h2)]
        have hsk := skn_le (f := f) (n := n) (k := S.1 + 1) (by omega)
        have hS : txok p (skn n f (S.1 + 1), S.2) := ⟨by show skn n f (S.1 + 1) ≤ 400; omega, h.2⟩
        have h3 := stm_ok (f := f) hn (S := (skn n f (S.1 + 1), S.2)) hsk.2 hp hp7 hS
        have h4 := stm_le (f := f) (pe := nI p) (S := (skn n f (S.1 + 1), S.2)) hn hsk.2 hS.2.1
        by_cases h5 : (stm n f (nI p) (skn n f (S.1 + 1), S.2)).1 = 0
        · rw [if_pos h5]; exact ⟨Or.inr ⟨_, by omega, rfl⟩, h3⟩
        · rw [if_neg h5]
          have hs2 := skn_le (f := f) (n := n) (k := (stm n f (nI p) (skn n f (S.1 + 1), S.2)).2.1) h4.2.1
          exact rdl_ok hn hp hp7 m _ hs2.2 ⟨by show skn n f _ ≤ 400; omega, h3.2⟩
      · rw [if_pos h2]; exact ⟨Or.inr ⟨S.1, by omega, rfl⟩, h⟩
theorem tx0_ok {k p : Nat} {L : Nat → Int32} (hk : k ≤ 400) (hL : lspF L) : txok p (TXS0 k L) := ⟨hk, Nat.zero_le _, b7_0, fun _ _ => b7_0, fun _ _ => b7_0, fun _ _ => b7_0, hL, fun i hi => absurd hi (Nat.not_lt_zero i)⟩
/-- the whole text, in its bounds: the fault, the people, what it tells -/
theorem rdx_ok {n : Nat} {f L : Nat → Int32} (hn : n ≤ 400) (hL : lspF L) : f400 (rdx n f L).1 ∧ (((rdx n f L).2.1 = -1 ∨ (rdx n f L).2.1 = 0) ∧ ¬ (rdx n f L).1 = -1 ∧ txok 0 (rdx n f L).2.2 ∨ ∃ p : Nat, 1 ≤ p ∧ p ≤ 7 ∧ (rdx n f L).2.1 = nI p ∧ txok p (rdx n f L).2.2) := by
  have hs := skn_le (f := f) (n := n) (k := 0) (Nat.zero_le _)
  have hk1 : ∀ k : Nat, k ≤ 400 → ¬ nI k = -1 := fun k hk q => by
    have := congrArg Int32.toInt q
    rw [nI_toInt (by omega)] at this
    have e : (-1 : Int32).toInt = -1 := by decide
    omega
  unfold rdx
  by_cases h1 : atv n f (nI (skn n f 0)) = 112
  · have hlt := at_lt hn (show skn n f 0 < 2 ^ 31 by omega) (by rw [h1]; decide)
    rw [if_neg (fun q => q h1)]
    have hkp : nump n f (skn n f 0 + 1) 1 7 (-1) ≤ n := nump_le hn (by omega)
    by_cases h2 : numr n f (skn n f 0 + 1) 1 7 (-1) = -1
    · rw [if_pos h2]
      exact ⟨Or.inr ⟨_, by omega, rfl⟩, Or.inl ⟨Or.inl rfl, hk1 _ (by omega), tx0_ok (by omega) hL⟩⟩
    · rw [if_neg h2]
      obtain ⟨p, hp1, hp7, ep⟩ := num_b (x := 1) (y := 7) (lo := 1) (hi := 7) rfl rfl (by decide) (by decide) h2
      rw [ep]
      have hs2 := skn_le (f := f) (n := n) (k := nump n f (skn n f 0 + 1) 1 7 (-1)) hkp
      have := rdl_ok (f := f) hn hp1 hp7 (n + 1) (TXS0 (skn n f (nump n f (skn n f 0 + 1) 1 7 (-1))) L) hs2.2 (tx0_ok (by omega) hL)
      exact ⟨this.1, Or.inr ⟨p, hp1, hp7, rfl, this.2⟩⟩
  · rw [if_pos h1]
    exact ⟨Or.inr ⟨_, by omega, rfl⟩, Or.inl ⟨Or.inr rfl, hk1 _ (by omega), tx0_ok (by omega) hL⟩⟩
/-! the reference's -/
def n99 (x : Int32) : Prop := -99 ≤ x.toInt ∧ x.toInt ≤ 200
theorem dig_b {n : Nat} {f : Nat → Int32} {x : Int32} (h : ¬ dg n f x = 0) : ∃ d : Nat, d ≤ 9 ∧ atv n f x - 48 = nI d := by
  obtain ⟨h1, h2⟩ := inv3_1 h
  rw [fa_lt, show (48 : Int32).toInt = 48 by decide] at h1
  rw [fa_lt, show (57 : Int32).toInt = 57 by decide] at h2
  refine ⟨((atv n f x).toInt - 48).toNat, by omega, Int32.toInt_inj.mp ?_⟩
  rw [nI_toInt (by omega), Int32.toInt_sub, show (48 : Int32).toInt = 48 by decide, Int.bmod_eq_of_le (by omega) (by omega)]
  omega
theorem nval_b {n k : Nat} {f : Nat → Int32} (h : ¬ numNo n f k) : ∃ d : Nat, d ≤ 99 ∧ nval n f k = nI d := by
  have h1 : ¬ dg n f (nI (skn n f k)) = 0 := fun q => h (Or.inr q)
  obtain ⟨d, hd, ed⟩ := dig_b h1
  unfold nval
  by_cases h2 : dg n f (nI (skn n f k + 1)) = 0
  · rw [if_pos h2]; exact ⟨d, by omega, ed⟩
  · rw [if_neg h2]
    obtain ⟨d2, hd2, ed2⟩ := dig_b h2
    refine ⟨d * 10 + d2, by omega, ?_⟩
    rw [ed, Int32.sub_eq_add_neg, Int32.add_assoc, ← Int32.sub_eq_add_neg, ed2]
    show nI d * nI 10 + nI d2 = _
    rw [pk_mul, nI_add]
theorem n99_nI {d : Nat} (h : d ≤ 200) : n99 (nI d) := by unfold n99; rw [nI_toInt (by omega)]; omega
theorem rnv_b {n k : Nat} {f : Nat → Int32} {v : Int32} (h : n99 v) : n99 (rnv n f k v) := by
  unfold rnv
  split
  · exact h
  · rename_i h1
    obtain ⟨d, hd, ed⟩ := nval_b h1
    rw [ed]; exact n99_nI (by omega)
theorem fl_b {i : Int32} {k : Nat} (h : f400 i) (hk : k ≤ 400) : f400 (fl i (nI k)) := by
  unfold fl
  split
  · exact Or.inr ⟨k, hk, rfl⟩
  · exact h
theorem rnf_b {n k : Nat} {f : Nat → Int32} {lo hi un i : Int32} (hn : n ≤ 400) (hk : k ≤ n) (h : f400 i) : f400 (rnf n f k lo hi un i) := by
  have hs := skn_le (f := f) hk
  unfold rnf
  split
  · exact fl_b h (by omega)
  · rename_i h1
    have := nk2_le hn hk h1
    split
    · exact fl_b h (by omega)
    · split
      · exact h
      · exact fl_b h (by omega)
theorem f400_m1 : f400 (-1) := Or.inl rfl
theorem mF_b {n k : Nat} {f : Nat → Int32} {mo : Int32} (hn : n ≤ 400) (hk : k ≤ n) : f400 (mF n f k mo) := by
  obtain ⟨h1, h2, h3, h4⟩ := ra_le (f := f) hn hk
  unfold mF
  split
  · exact rnf_b hn hk f400_m1
  · exact rnf_b hn h1 f400_m1
  · exact rnf_b hn h2 f400_m1
  · exact rnf_b hn h3 f400_m1
  · exact f400_m1
theorem bF_b {n k : Nat} {f : Nat → Int32} {mo h : Int32} (hn : n ≤ 400) (hk : k ≤ n) : f400 (bF n f k mo h) := by
  obtain ⟨h1, h2, h3, h4⟩ := ra_le (f := f) hn hk
  unfold bF
  split
  · exact rnf_b hn hk f400_m1
  · exact rnf_b hn h1 f400_m1
  · exact f400_m1
/-- a number that was read, in its bounds -/
theorem rn_b {n k lo hi : Nat} {f : Nat → Int32} {un x y : Int32} (ex : x = nI lo) (ey : y = nI hi) (hl : lo < 2 ^ 31) (hh : hi < 2 ^ 31) (h : ¬ rnr n f k x y un = 0) : ∃ a : Nat, lo ≤ a ∧ a ≤ hi ∧ nval n f k = nI a := by
  have h5 := (rn_y (v := 0) (i := 0) h).2.2.2.2.1
  have h1 : ¬ nval n f k < x := fun q => h5 (Or.inl q)
  have h2 : ¬ y < nval n f k := fun q => h5 (Or.inr (Or.inl q))
  subst ex ey
  rw [fa_lt, nI_toInt hl] at h1
  rw [fa_lt, nI_toInt hh] at h2
  exact ⟨(nval n f k).toInt.toNat, by omega, by omega, Int32.toInt_inj.mp (by rw [nI_toInt (by omega)]; omega)⟩
theorem mJ_y {n : Nat} {f : Nat → Int32} {k : Nat} {mo : Int32} (h : mJ n f k mo = 5) : ¬ rnr n f k 0 mo (-1) = 0 ∧ ¬ rnr n f (ra1 n f k) 0 mo (va1 n f k) = 0 ∧ ¬ rnr n f (ra2 n f k) 1 24 (-1) = 0 ∧ ¬ rnr n f (ra3 n f k) (va3 n f k) 24 (-1) = 0 := by
  by_cases h1 : rnr n f k 0 mo (-1) = 0
  · rw [(mJ_1 (N := 0) h1).1] at h; omega
  by_cases h2 : rnr n f (ra1 n f k) 0 mo (va1 n f k) = 0
  · rw [(mJ_2 (N := 0) h1 h2).1] at h; omega
  by_cases h3 : rnr n f (ra2 n f k) 1 24 (-1) = 0
  · rw [(mJ_3 (N := 0) h1 h2 h3).1] at h; omega
  by_cases h4 : rnr n f (ra3 n f k) (va3 n f k) 24 (-1) = 0
  · rw [(mJ_4 (N := 0) h1 h2 h3 h4).1] at h; omega
  exact ⟨h1, h2, h3, h4⟩
def bN_ (r : Nat → Int32) (n lo hi : Nat) : Prop := ∀ j : Nat, j < n → ∃ k : Nat, lo ≤ k ∧ k ≤ hi ∧ r j = nI k
theorem bN_upd {r : Nat → Int32} {n lo hi k a : Nat} (h : bN_ r n lo hi) (h1 : lo ≤ a) (h2 : a ≤ hi) : bN_ (upd r k (nI a)) n lo hi := fun j hj => by
  by_cases e : j = k
  · subst e; exact ⟨a, h1, h2, by simp only [upd, if_true]⟩
  · obtain ⟨x, q1, q2, q3⟩ := h j hj
    exact ⟨x, q1, q2, by simp only [upd, e, if_false]; exact q3⟩
def dwn (r : Nat → Int32) : Prop := ∀ j : Nat, j < 132 → -1 ≤ (r j).toInt ∧ (r j).toInt ≤ 24
theorem dwn_upd {r : Nat → Int32} {k : Nat} (h : dwn r) : dwn (upd r k (-1)) := fun j hj => by
  by_cases e : j = k
  · subst e; simp only [upd, if_true]; exact ⟨by decide, by decide⟩
  · simp only [upd, e, if_false]; exact h j hj
/-- what a text has told the reference so far, in its bounds -/
def rxok (S : RTX) : Prop := S.1 ≤ 400 ∧ n99 S.2.1 ∧ bN_ S.2.2.1 11 0 12 ∧ bN_ S.2.2.2.1 11 0 127 ∧ bN_ S.2.2.2.2.1 44 0 127 ∧ bN_ S.2.2.2.2.2.1 44 0 127 ∧ bN_ S.2.2.2.2.2.2.1 44 0 127 ∧ bN_ S.2.2.2.2.2.2.2.1 132 0 6 ∧ bN_ S.2.2.2.2.2.2.2.2.1 132 0 6 ∧ bN_ S.2.2.2.2.2.2.2.2.2.1 132 0 24 ∧ bN_ S.2.2.2.2.2.2.2.2.2.2.1 132 0 24 ∧ dwn S.2.2.2.2.2.2.2.2.2.2.2.1 ∧ bN_ S.2.2.2.2.2.2.2.2.2.2.2.2 132 0 1
theorem g5_b {P : (Nat → Int32) → Prop} {j : Nat} {x y : Nat → Int32} (h : j = 5 → P x) (h2 : P y) : P (g5 j x y) := by
  by_cases e : j = 5
  · subst e; rw [g5_5]; exact h rfl
  · rw [g5, if_neg e]; exact h2
theorem or7 {a b : Nat} (ha : a ≤ 127) (hb : b < 7) : ∃ k : Nat, 0 ≤ k ∧ k ≤ 127 ∧ nI a ||| ((1 : Int32) <<< (nI b &&& 31)) = nI k := by
  obtain ⟨k, hk, e⟩ := b7_or (x := nI a) ⟨a, by omega, rfl⟩ hb
  exact ⟨k, by omega, by omega, e⟩
theorem mN_b {n k : Nat} {f : Nat → Int32} {mo N : Int32} (h : n99 N) : n99 (mN n f k mo N) := by
  unfold mN
  split
  · exact rnv_b h
  · rename_i e
    have h1 : ¬ rnr n f k 0 mo (-1) = 0 := fun q => by rw [(mJ_1 (N := 0) q).1] at e; omega
    obtain ⟨d, hd, ed⟩ := nval_b (rn_y (v := 0) (i := 0) h1).2.2.2.1
    exact rnv_b (by rw [show va1 n f k = nI d from ed]; exact n99_nI (by omega))
  · rename_i e
    have h1 : ¬ rnr n f k 0 mo (-1) = 0 := fun q => by rw [(mJ_1 (N := 0) q).1] at e; omega
    have h2 : ¬ rnr n f (ra1 n f k) 0 mo (va1 n f k) = 0 := fun q => by rw [(mJ_2 (N := 0) h1 q).1] at e; omega
    obtain ⟨d, hd, ed⟩ := nval_b (rn_y (v := 0) (i := 0) h2).2.2.2.1
    exact rnv_b (by rw [show va2 n f k = nI d from ed]; exact n99_nI (by omega))
  · rename_i e
    have h1 : ¬ rnr n f k 0 mo (-1) = 0 := fun q => by rw [(mJ_1 (N := 0) q).1] at e; omega
    have h2 : ¬ rnr n f (ra1 n f k) 0 mo (va1 n f k) = 0 := fun q => by rw [(mJ_2 (N := 0) h1 q).1] at e; omega
    have h3 : ¬ rnr n f (ra2 n f k) 1 24 (-1) = 0 := fun q => by rw [(mJ_3 (N := 0) h1 h2 q).1] at e; omega
    obtain ⟨d, hd, ed⟩ := nval_b (rn_y (v := 0) (i := 0) h3).2.2.2.1
    exact rnv_b (by rw [show va3 n f k = nI d from ed]; exact n99_nI (by omega))
  · rename_i e1 e2 e3 e4
    have h1 : ¬ rnr n f k 0 mo (-1) = 0 := fun q => e1 (mJ_1 (N := 0) q).1
    have h2 : ¬ rnr n f (ra1 n f k) 0 mo (va1 n f k) = 0 := fun q => e2 (mJ_2 (N := 0) h1 q).1
    have h3 : ¬ rnr n f (ra2 n f k) 1 24 (-1) = 0 := fun q => e3 (mJ_3 (N := 0) h1 h2 q).1
    have h4 : ¬ rnr n f (ra3 n f k) (va3 n f k) 24 (-1) = 0 := fun q => e4 (mJ_4 (N := 0) h1 h2 h3 q).1
    obtain ⟨d, hd, ed⟩ := nval_b (rn_y (v := 0) (i := 0) h4).2.2.2.1
    rw [show va4 n f k = nI d from ed]; exact n99_nI (by omega)
theorem pp_b {n k p : Nat} {f : Nat → Int32} {un x : Int32} (hp : p ≤ 7) (ex : x = nI p - 1) (h : ¬ rnr n f k 0 x un = 0) : ∃ a : Nat, a < p ∧ nval n f k = nI a := by
  rcases Nat.eq_zero_or_pos p with e | e
  · subst e
    have h5 := (rn_y (v := 0) (i := 0) h).2.2.2.2.1
    have h1 : ¬ nval n f k < 0 := fun q => h5 (Or.inl q)
    have h2 : ¬ x < nval n f k := fun q => h5 (Or.inr (Or.inl q))
    rw [ex] at h2
    rw [fa_lt, i0] at h1
    rw [fa_lt, show (nI 0 - 1 : Int32).toInt = -1 by decide] at h2
    omega
  · obtain ⟨a, -, h2, h3⟩ := rn_b (lo := 0) (hi := p - 1) rfl (ex.trans (nI_s1 e)) (by decide) (by omega) h
    exact ⟨a, by omega, h3⟩
theorem mR_ok {n v c p o : Nat} {f : Nat → Int32} {x : Int32} {S : RTX} (hn : n ≤ 400) (hk : S.1 ≤ n) (hc : c < 12) (hp : p ≤ 7) (ho : o ≤ 1) (ex : x = nI p - 1) (h : rxok S) : rxok (mR n f v c x (nI o) S) := by
  obtain ⟨t1, t2, t3, t4, t5, t6, t7, t8, t9, t10, t11, t12, t13⟩ := h
  have hkk := mK_le (f := f) (mo := x) hn hk
  refine ⟨by show mK n f S.1 x ≤ 400; omega, mN_b t2, g5_b (P := fun r => bN_ r 11 0 12) (fun _ => bN_upd t3 (by omega) (by omega)) t3, t4, t5, t6, t7, ?_, ?_, ?_, ?_, g5_b (P := dwn) (fun _ => dwn_upd t12) t12, ?_⟩
  · refine g5_b (P := fun r => bN_ r 132 0 6) (fun e => ?_) t8
    obtain ⟨a, ha, ea⟩ := pp_b hp ex (mJ_y e).1
    rw [show va1 n f S.1 = nI a from ea]; exact bN_upd t8 (by omega) (by omega)
  · refine g5_b (P := fun r => bN_ r 132 0 6) (fun e => ?_) t9
    obtain ⟨a, ha, ea⟩ := pp_b hp ex (mJ_y e).2.1
    rw [show va2 n f S.1 = nI a from ea]; exact bN_upd t9 (by omega) (by omega)
  · refine g5_b (P := fun r => bN_ r 132 0 24) (fun e => ?_) t10
    obtain ⟨a, ha1, ha2, ea⟩ := rn_b (lo := 1) (hi := 24) rfl rfl (by decide) (by decide) (mJ_y e).2.2.1
    rw [show va3 n f S.1 = nI a from ea]; exact bN_upd t10 (by omega) ha2
  · refine g5_b (P := fun r => bN_ r 132 0 24) (fun e => ?_) t11
    obtain ⟨a, ha1, ha2, ea⟩ := rn_b (lo := 1) (hi := 24) rfl rfl (by decide) (by decide) (mJ_y e).2.2.1
    have h4 := (mJ_y e).2.2.2
    rw [show va3 n f S.1 = nI a from ea] at h4
    obtain ⟨b, hb1, hb2, eb⟩ := rn_b (lo := a) (hi := 24) rfl rfl (by omega) (by decide) h4
    rw [show va4 n f S.1 = nI b from eb]; exact bN_upd t11 (by omega) hb2
  · refine g5_b (P := fun r => bN_ r 132 0 1) (fun e => ?_) t13
    have : vp_nar .boolean (nI o) = nI o := by
      rcases (show o = 0 ∨ o = 1 by omega) with rfl | rfl <;> rfl
    rw [this]; exact bN_upd t13 (by omega) ho
theorem bN_b {n k : Nat} {f : Nat → Int32} {mo h N : Int32} (hN : n99 N) : n99 (bN n f k mo h N) := by
  unfold bN
  split
  · exact rnv_b hN
  · rename_i e
    have h1 : ¬ rnr n f k 0 mo (-1) = 0 := fun q => by rw [bJ, if_pos q] at e; omega
    obtain ⟨d, hd, ed⟩ := nval_b (rn_y (v := 0) (i := 0) h1).2.2.2.1
    exact rnv_b (by rw [show va1 n f k = nI d from ed]; exact n99_nI (by omega))
  · rename_i e
    have h1 : ¬ rnr n f k 0 mo (-1) = 0 := fun q => by rw [bJ, if_pos q] at e; omega
    obtain ⟨d, hd, ed⟩ := nval_b (rn_y (v := 0) (i := 0) h1).2.2.2.1
    rw [show va1 n f k = nI d from ed]; exact n99_nI (by omega)
  · rename_i e1 e2 e3
    have h1 : ¬ rnr n f k 0 mo (-1) = 0 := fun q => e1 (if_pos q)
    have h2 : ¬ h = 0 := fun q => e3 (by rw [bJ, if_neg h1, if_pos q])
    have h3 : ¬ rnr n f (ra1 n f k) 0 3 (-1) = 0 := fun q => e2 (by rw [bJ, if_neg h1, if_neg h2, if_pos q])
    obtain ⟨d, hd, ed⟩ := nval_b (rn_y (v := 0) (i := 0) h3).2.2.2.1
    rw [show va2 n f k = nI d from ed]; exact n99_nI (by omega)
theorem bG_ok {n k v p N : Nat} {f r : Nat → Int32} {x h : Int32} (hp : p ≤ 7) (ex : x = nI p - 1) (hv : v < N) (hN : ¬ h = 0 → 4 * v + 3 < N) (hN2 : N < 2 ^ 31) (hr : bN_ r N 0 127) : bN_ (bG n f k v x h r) N 0 127 := by
  unfold bG
  split
  · rename_i e
    have h1 : ¬ rnr n f k 0 x (-1) = 0 := fun q => by rw [bJ, if_pos q] at e; omega
    obtain ⟨a, ha, ea⟩ := pp_b hp ex h1
    obtain ⟨b, -, hb, eb⟩ := hr v hv
    rw [show va1 n f k = nI a from ea, eb]
    obtain ⟨c, -, hc, ec⟩ := or7 (a := b) (b := a) hb (by omega)
    rw [ec]; exact bN_upd hr (by omega) hc
  · rename_i e
    have h1 : ¬ rnr n f k 0 x (-1) = 0 := fun q => by rw [bJ, if_pos q] at e; omega
    have h2 : ¬ h = 0 := fun q => by rw [bJ, if_neg h1, if_pos q] at e; omega
    have h3 : ¬ rnr n f (ra1 n f k) 0 3 (-1) = 0 := fun q => by rw [bJ, if_neg h1, if_neg h2, if_pos q] at e; omega
    obtain ⟨a, ha, ea⟩ := pp_b hp ex h1
    obtain ⟨d, -, hd, ed⟩ := rn_b (lo := 0) (hi := 3) rfl rfl (by decide) (by decide) h3
    have hNN := hN h2
    rw [show va1 n f k = nI a from ea, show va2 n f k = nI d from ed, nI_add, nI_clamp (by omega)]
    obtain ⟨b, -, hb, eb⟩ := hr (4 * v + d) (by omega)
    rw [eb]
    obtain ⟨c, -, hc, ec⟩ := or7 (a := b) (b := a) hb (by omega)
    rw [ec]; exact bN_upd hr (by omega) hc
  · exact hr
theorem rst_ok {n v c p : Nat} {f P : Nat → Int32} {S : RTX} (hn : n ≤ 400) (hv : v ≤ 10) (hk : S.1 ≤ n) (hp : p ≤ 7) (eP : P v = nI p) (h : rxok S) : rxok (rst n f v c P S).2.2 ∧ f400 (rst n f v c P S).2.1 := by
  have hs := skn_le (f := f) hk
  have ex : P v - 1 = nI p - 1 := by rw [eP]
  have lt : ∀ x : Int32, atv n f (nI (skn n f S.1)) = x → ¬ x = -1 → skn n f S.1 < n := fun x e h => at_lt hn (by omega) (by rw [e]; exact h)
  have hS : skn n f S.1 < n → rxok (skn n f S.1 + 1, S.2) := fun q => ⟨by show skn n f S.1 + 1 ≤ 400; omega, h.2⟩
  have h' := h
  obtain ⟨t1, t2, t3, t4, t5, t6, t7, t8, t9, t10, t11, t12, t13⟩ := h
  have hb : ∀ x : Int32, skn n f S.1 < n → bK n f (skn n f S.1 + 1) (P v - 1) x ≤ 400 := fun x q => Nat.le_trans (bK_le hn (by omega)) hn
  by_cases h1 : atv n f (nI (skn n f S.1)) = 108 ∧ c < 12
  · rw [rst_l h1.1 h1.2]; have q := lt _ h1.1 (by decide); exact ⟨mR_ok (o := 0) hn (S := (skn n f S.1 + 1, S.2)) (by show _ ≤ n; omega) h1.2 hp (by omega) ex (hS q), mF_b hn (by omega)⟩
  by_cases h2 : atv n f (nI (skn n f S.1)) = 111 ∧ c < 12
  · rw [rst_o h2.1 h2.2]; have q := lt _ h2.1 (by decide); exact ⟨mR_ok (o := 1) hn (S := (skn n f S.1 + 1, S.2)) (by show _ ≤ n; omega) h2.2 hp (by omega) ex (hS q), mF_b hn (by omega)⟩
  by_cases h3 : atv n f (nI (skn n f S.1)) = 107
  · rw [rst_k h3]; have q := lt _ h3 (by decide); exact ⟨⟨hb 1 q, bN_b t2, t3, t4, bG_ok hp ex (by omega) (fun _ => by omega) (by decide) t5, t6, t7, t8, t9, t10, t11, t12, t13⟩, bF_b hn (by omega)⟩
  by_cases h4 : atv n f (nI (skn n f S.1)) = 119
  · rw [rst_w h4]; have q := lt _ h4 (by decide); exact ⟨⟨hb 1 q, bN_b t2, t3, t4, t5, bG_ok hp ex (by omega) (fun _ => by omega) (by decide) t6, t7, t8, t9, t10, t11, t12, t13⟩, bF_b hn (by omega)⟩
  by_cases h5 : atv n f (nI (skn n f S.1)) = 115
  · rw [rst_s h5]; have q := lt _ h5 (by decide); exact ⟨⟨hb 1 q, bN_b t2, t3, t4, t5, t6, bG_ok hp ex (by omega) (fun _ => by omega) (by decide) t7, t8, t9, t10, t11, t12, t13⟩, bF_b hn (by omega)⟩
  by_cases h6 : atv n f (nI (skn n f S.1)) = 100
  · rw [rst_d h6]; have q := lt _ h6 (by decide); exact ⟨⟨hb 0 q, bN_b t2, t3, bG_ok hp ex (by omega) (fun q => absurd rfl q) (by decide) t4, t5, t6, t7, t8, t9, t10, t11, t12, t13⟩, bF_b hn (by omega)⟩
  rw [rst_0 h1 h2 h3 h4 h5 h6]
  exact ⟨⟨by show skn n f S.1 ≤ 400; omega, h'.2⟩, fl_b f400_m1 (by omega)⟩
theorem rdm_ok {n v p : Nat} {f P : Nat → Int32} (hn : n ≤ 400) (hv : v ≤ 10) (hp : p ≤ 7) (eP : P v = nI p) : ∀ (m : Nat) (S : RTX), S.1 ≤ n → rxok S → rxok (rdm n f v P m S).2.2 ∧ f400 (rdm n f v P m S).2.1 ∧ ((rdm n f v P m S).1 = 0 ∨ (rdm n f v P m S).1 = 1)
  | 0, S, _, h => ⟨h, f400_m1, Or.inr rfl⟩
  | m + 1, S, hk, h => by
    have hs := skn_le (f := f) hk
    have hS : rxok (skn n f S.1, S.2) := ⟨by show skn n f S.1 ≤ 400; omega, h.2⟩
    rw [rdm]
    by_cases h1 : atv n f (nI (skn n f S.1)) = 59
    · rw [if_neg (fun q => q h1)]
      have hlt := at_lt hn (show skn n f S.1 < 2 ^ 31 by omega) (by rw [h1]; decide)
      have hS2 : rxok (skn n f S.1 + 1, S.2) := ⟨by show skn n f S.1 + 1 ≤ 400; omega, h.2⟩
      have h3 := rst_ok (c := (S.2.2.1 v).toNatClampNeg) (f := f) (S := (skn n f S.1 + 1, S.2)) hn hv (by show _ ≤ n; omega) hp eP hS2
      by_cases h5 : (rst n f v (S.2.2.1 v).toNatClampNeg P (skn n f S.1 + 1, S.2)).1 = 0
      · rw [if_pos h5]; exact ⟨h3.1, h3.2, Or.inl rfl⟩
      · rw [if_neg h5]
        obtain ⟨k, -, hk12, ek⟩ := h.2.2.1 v (by omega)
        have h4 := rst_le (f := f) (P := P) (S := (skn n f S.1 + 1, S.2)) (v := v) (c := (S.2.2.1 v).toNatClampNeg) hn (by show _ ≤ n; omega) (by rw [ek, nI_clamp (by omega)]; exact hk12) (by show S.2.2.1 v = _; rw [ek, nI_clamp (by omega)])
        exact rdm_ok hn hv hp eP m _ h4.1 h3.1
    · rw [if_pos h1]
      by_cases h2 : nI (skn n f S.1) = nI n
      · rw [if_pos h2]; exact ⟨hS, f400_m1, Or.inr rfl⟩
      · rw [if_neg h2]; exact ⟨hS, fl_b f400_m1 (by omega), Or.inl rfl⟩
theorem zrk_b {r : Nat → Int32} {v k n : Nat} (h : bN_ r n 0 127) : bN_ (zrk r v k) n 0 127 := fun j hj => by
  unfold zrk
  split
  · exact ⟨0, by omega, by omega, rfl⟩
  · exact h j hj
theorem rt0_ok {v k : Nat} {N : Int32} {S : RTX} (hk : k ≤ 400) (hN : n99 N) (h : rxok S) : rxok (rt0 v k N S) := by
  obtain ⟨t1, t2, t3, t4, t5, t6, t7, t8⟩ := h
  exact ⟨hk, hN, bN_upd (a := 0) t3 (by omega) (by omega), bN_upd (a := 0) t4 (by omega) (by omega), zrk_b t5, zrk_b t6, zrk_b t7, t8⟩
theorem rdv_ok {n v : Nat} {f P : Nat → Int32} {S : RTX} (hn : n ≤ 400) (hv : v ≤ 10) (hP : bN_ P 11 0 7) (h : rxok S) : rxok (rdv n f v P S).2.2.2 ∧ bN_ (rdv n f v P S).2.2.1 11 0 7 ∧ f400 (rdv n f v P S).2.1 ∧ ((rdv n f v P S).1 = 0 ∨ (rdv n f v P S).1 = 1) := by
  have hs := skn_le (f := f) (n := n) (k := 0) (Nat.zero_le _)
  unfold rdv
  by_cases h1 : atv n f (nI (skn n f 0)) = 112
  · have hlt := at_lt hn (show skn n f 0 < 2 ^ 31 by omega) (by rw [h1]; decide)
    rw [if_neg (fun q => q h1)]
    have hr := rna_le (f := f) hn (show skn n f 0 + 1 ≤ n by omega)
    by_cases h2 : rnr n f (skn n f 0 + 1) 1 7 (-1) = 0
    · rw [if_pos h2]
      exact ⟨rt0_ok (by omega) (rnv_b h.2.1) h, hP, rnf_b hn (by omega) f400_m1, Or.inl rfl⟩
    · rw [if_neg h2]
      obtain ⟨p, hp1, hp7, ep⟩ := rn_b (lo := 1) (hi := 7) rfl rfl (by decide) (by decide) h2
      rw [ep]
      have := rdm_ok (f := f) (P := upd P v (nI p)) hn hv hp7 (by simp only [upd, if_true]) (n + 1) (rt0 v (rna n f (skn n f 0 + 1)) (nI p) S) hr (rt0_ok (by omega) (n99_nI (by omega)) h)
      exact ⟨this.1, bN_upd hP (by omega) hp7, this.2.1, this.2.2⟩
  · rw [if_pos h1]
    exact ⟨rt0_ok (by omega) h.2.1 h, hP, fl_b f400_m1 (by omega), Or.inl rfl⟩

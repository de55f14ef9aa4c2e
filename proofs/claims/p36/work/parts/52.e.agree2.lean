/-- what a text has told, on both sides -/
def RXT (v : Nat) (S : TXT) (R : RTX) : Prop := S.2.1 ≤ 12 ∧ R.2.2.1 v = nI S.2.1 ∧ R.2.2.2.1 v = S.2.2.1 ∧ (∀ j : Nat, j < 4 → R.2.2.2.2.1 (4 * v + j) = S.2.2.2.1 j) ∧ (∀ j : Nat, j < 4 → R.2.2.2.2.2.1 (4 * v + j) = S.2.2.2.2.1 j) ∧ (∀ j : Nat, j < 4 → R.2.2.2.2.2.2.1 (4 * v + j) = S.2.2.2.2.2.1 j) ∧
  ∀ i : Nat, i < S.2.1 → R.2.2.2.2.2.2.2.1 (12 * v + i) = S.2.2.2.2.2.2 (i * 6) ∧ R.2.2.2.2.2.2.2.2.1 (12 * v + i) = S.2.2.2.2.2.2 (i * 6 + 1) ∧ R.2.2.2.2.2.2.2.2.2.1 (12 * v + i) = S.2.2.2.2.2.2 (i * 6 + 2) ∧ R.2.2.2.2.2.2.2.2.2.2.1 (12 * v + i) = S.2.2.2.2.2.2 (i * 6 + 3) ∧ R.2.2.2.2.2.2.2.2.2.2.2.1 (12 * v + i) = S.2.2.2.2.2.2 (i * 6 + 5) ∧ R.2.2.2.2.2.2.2.2.2.2.2.2 (12 * v + i) = S.2.2.2.2.2.2 (i * 6 + 4)
theorem ln6_old {L : Nat → Int32} {c j : Nat} {a b f t o : Int32} (h : j < c * 6) : ln6 L c a b f t o j = L j := by
  unfold ln6
  rw [upd_ne (by omega), upd_ne (by omega), upd_ne (by omega), upd_ne (by omega), upd_ne (by omega), upd_ne (by omega)]
theorem ln6_new {L : Nat → Int32} {c : Nat} {a b f t o : Int32} : ln6 L c a b f t o (c * 6) = a ∧ ln6 L c a b f t o (c * 6 + 1) = b ∧ ln6 L c a b f t o (c * 6 + 2) = f ∧ ln6 L c a b f t o (c * 6 + 3) = t ∧ ln6 L c a b f t o (c * 6 + 4) = o ∧ ln6 L c a b f t o (c * 6 + 5) = -1 := by
  unfold ln6
  refine ⟨?_, ?_, ?_, ?_, ?_, ?_⟩
  · rw [upd_ne (by omega), upd_ne (by omega), upd_ne (by omega), upd_ne (by omega), upd_ne (by omega), show c * 6 = c * 6 + 0 by omega, upd_eq]
  · rw [upd_ne (by omega), upd_ne (by omega), upd_ne (by omega), upd_ne (by omega), upd_eq]
  · rw [upd_ne (by omega), upd_ne (by omega), upd_ne (by omega), upd_eq]
  · rw [upd_ne (by omega), upd_ne (by omega), upd_eq]
  · rw [upd_ne (by omega), upd_eq]
  · rw [upd_eq]
/-- one statement: both fail; the class's next step fails at a third digit; both do -/
abbrev STA (n : Nat) (f : Nat → Int32) (v : Nat) (X : Int32 × TXT) (Y : Int32 × Int32 × RTX) : Prop :=
  (X.1 = 0 ∧ Y.1 = 0 ∧ Y.2.1 = nI X.2.1) ∨ (¬ X.1 = 0 ∧ Y.1 = 0 ∧ Y.2.1 = nI X.2.1 ∧ DG n f X.2.1) ∨ (¬ X.1 = 0 ∧ ¬ Y.1 = 0 ∧ Y.2.2.1 = X.2.1 ∧ RXT v X.2 Y.2.2)
theorem ne10 : ¬ (1 : Int32) = 0 := by decide
set_option maxHeartbeats 4000000 in
theorem RXT_line {n k v c : Nat} {f : Nat → Int32} {pe o : Int32} {S : TXT} {R : RTX} (hX : RXT v S R) (hc : c = S.2.1) (h12 : c < 12) (q : Nat) {a1 a2 : Nat} {kk : Nat} (h5 : mJ n f kk (pe - 1) = 5) (l5 : lJ n f k pe c = 5) (e1 : va1 n f kk = lA n f k pe) (e2 : va2 n f kk = lB n f k pe) (e3 : va3 n f kk = lF n f k pe) (e4 : va4 n f kk = lT n f k pe) (ho : vp_nar FieldType.boolean o = o) :
    RXT v (a1, lC n f k pe c, S.2.2.1, S.2.2.2.1, S.2.2.2.2.1, S.2.2.2.2.2.1, lL n f k pe c o S.2.2.2.2.2.2) (mR n f v c (pe - 1) o (kk, R.2)) := by
  obtain ⟨h1, h2, h3, h4, h6, h7, h8⟩ := hX
  have eC : lC n f k pe c = c + 1 := if_pos l5
  have eL : lL n f k pe c o S.2.2.2.2.2.2 = ln6 S.2.2.2.2.2.2 c (lA n f k pe) (lB n f k pe) (lF n f k pe) (lT n f k pe) o := if_pos l5
  rw [eC, eL]
  unfold RXT mR
  dsimp only
  rw [h5]
  simp only [g5_5]
  refine ⟨h12, upd_eq, h3, h4, h6, h7, fun i hi => ?_⟩
  by_cases he : i = c
  · subst he
    obtain ⟨n0, n1, n2, n3, n4, n5⟩ := ln6_new (L := S.2.2.2.2.2.2) (c := i) (a := lA n f k pe) (b := lB n f k pe) (f := lF n f k pe) (t := lT n f k pe) (o := o)
    rw [n0, n1, n2, n3, n4, n5, upd_eq, upd_eq, upd_eq, upd_eq, upd_eq, upd_eq]
    exact ⟨e1, e2, e3, e4, rfl, ho⟩
  · have hlt : i < c := by omega
    obtain ⟨g1, g2, g3, g4, g5, g6⟩ := h8 i (by omega)
    rw [ln6_old (by omega), ln6_old (by omega), ln6_old (by omega), ln6_old (by omega), ln6_old (by omega), ln6_old (by omega), upd_ne (by omega), upd_ne (by omega), upd_ne (by omega), upd_ne (by omega), upd_ne (by omega), upd_ne (by omega)]
    exact ⟨g1, g2, g3, g4, g5, g6⟩
set_option maxHeartbeats 4000000 in
theorem stm_agree {n v c : Nat} {f : Nat → Int32} {pe : Int32} {P : Nat → Int32} {S : TXT} {R : RTX} (hn : n ≤ 400) (hv : v ≤ 10) (hk : skn n f R.1 = S.1) (hS : S.1 ≤ n) (hP : P v = pe) (hc : c = S.2.1) (hX : RXT v S R) : STA n f v (stm n f pe S) (rst n f v c P R) := by
  have hcl := hX
  obtain ⟨x1, x2, x3, x4, x6, x7, x8⟩ := hX
  have hat : atv n f (nI (skn n f R.1)) = atv n f (nI S.1) := by rw [hk]
  have hlt : ∀ y : Int32, ¬ y = -1 → atv n f (nI S.1) = y → S.1 < n := fun y hy e => at_lt hn (by omega) (by rw [e]; exact hy)
  have none : stm n f pe S = (0, S) → rst n f v c P R = (0, fl (-1) (nI (skn n f R.1)), (skn n f R.1, R.2)) → STA n f v (stm n f pe S) (rst n f v c P R) := fun e1 e2 => by
    rw [e1, e2]
    exact Or.inl ⟨rfl, rfl, by show fl (-1) (nI (skn n f R.1)) = nI S.1; rw [hk, fl_m1]⟩
  rcases ltab (atv n f (nI S.1)) with h | h | h | h | h | h | ⟨h1, h2, h3, h4, h5, h6⟩
  · have hl := hlt _ (by decide) h
    rcases Nat.lt_or_ge c 12 with h12 | h12
    · rw [stm_l h, rst_l (hat.trans h) h12, hk, hP, ← hc]
      rcases line_agree (pe := pe) hn hl h12 with ⟨a1, a2, a3⟩ | ⟨a1, a2, a3, a4⟩ | ⟨a1, a2, a3, a4, a5, a6, a7, a8, a9⟩
      · exact Or.inl ⟨a1, a2, a3⟩
      · exact Or.inr (Or.inl ⟨by show ¬ lOk n f S.1 pe c = 0; rw [a1]; exact ne10, a2, a3, a4⟩)
      · exact Or.inr (Or.inr ⟨by show ¬ lOk n f S.1 pe c = 0; rw [a1]; exact ne10, by show ¬ mOk n f (S.1 + 1) (pe - 1) = 0; rw [a2]; exact ne10, a3, RXT_line (a2 := 0) hcl hc h12 0 a4 a5 a6 a7 a8 a9 (by decide)⟩)
    · have e2 : rst n f v c P R = (0, fl (-1) (nI (skn n f R.1)), (skn n f R.1, R.2)) := rst_0 (fun q => by omega) (fun q => by omega) (by rw [hat, h]; decide) (by rw [hat, h]; decide) (by rw [hat, h]; decide) (by rw [hat, h]; decide)
      rw [stm_l h, e2, ← hc]
      obtain ⟨b1, b2⟩ := lJ_0 (n := n) (f := f) (k := S.1) (pe := pe) h12
      exact Or.inl ⟨(lJ_n (o := 0) (L := fun _ => 0) b1 (by decide)).1, rfl, by show fl (-1) (nI (skn n f R.1)) = nI (lK n f S.1 pe c); rw [b2, hk, fl_m1]⟩
  · have hl := hlt _ (by decide) h
    rcases Nat.lt_or_ge c 12 with h12 | h12
    · rw [stm_o h, rst_o (hat.trans h) h12, hk, hP, ← hc]
      rcases line_agree (pe := pe) hn hl h12 with ⟨a1, a2, a3⟩ | ⟨a1, a2, a3, a4⟩ | ⟨a1, a2, a3, a4, a5, a6, a7, a8, a9⟩
      · exact Or.inl ⟨a1, a2, a3⟩
      · exact Or.inr (Or.inl ⟨by show ¬ lOk n f S.1 pe c = 0; rw [a1]; exact ne10, a2, a3, a4⟩)
      · exact Or.inr (Or.inr ⟨by show ¬ lOk n f S.1 pe c = 0; rw [a1]; exact ne10, by show ¬ mOk n f (S.1 + 1) (pe - 1) = 0; rw [a2]; exact ne10, a3, RXT_line (a2 := 0) hcl hc h12 0 a4 a5 a6 a7 a8 a9 (by decide)⟩)
    · have e2 : rst n f v c P R = (0, fl (-1) (nI (skn n f R.1)), (skn n f R.1, R.2)) := rst_0 (fun q => by omega) (fun q => by omega) (by rw [hat, h]; decide) (by rw [hat, h]; decide) (by rw [hat, h]; decide) (by rw [hat, h]; decide)
      rw [stm_o h, e2, ← hc]
      obtain ⟨b1, b2⟩ := lJ_0 (n := n) (f := f) (k := S.1) (pe := pe) h12
      exact Or.inl ⟨(lJ_n (o := 0) (L := fun _ => 0) b1 (by decide)).1, rfl, by show fl (-1) (nI (skn n f R.1)) = nI (lK n f S.1 pe c); rw [b2, hk, fl_m1]⟩
  · have hl := hlt _ (by decide) h
    rw [stm_k h, rst_k (hat.trans h), hk, hP]
    rcases word_agree (pe := pe) hn hl hv x4 with ⟨a1, a2, a3⟩ | ⟨a1, a2, a3, a4⟩ | ⟨a1, a2, a3, a4⟩
    · exact Or.inl ⟨a1, a2, a3⟩
    · exact Or.inr (Or.inl ⟨by show ¬ nOk n f S.1 pe = 0; rw [a1]; exact ne10, a2, a3, a4⟩)
    · exact Or.inr (Or.inr ⟨by show ¬ nOk n f S.1 pe = 0; rw [a1]; exact ne10, by show ¬ bOk n f (S.1 + 1) (pe - 1) 1 = 0; rw [a2]; exact ne10, a3, x1, x2, x3, a4, x6, x7, x8⟩)
  · have hl := hlt _ (by decide) h
    rw [stm_w h, rst_w (hat.trans h), hk, hP]
    rcases word_agree (pe := pe) hn hl hv x6 with ⟨a1, a2, a3⟩ | ⟨a1, a2, a3, a4⟩ | ⟨a1, a2, a3, a4⟩
    · exact Or.inl ⟨a1, a2, a3⟩
    · exact Or.inr (Or.inl ⟨by show ¬ nOk n f S.1 pe = 0; rw [a1]; exact ne10, a2, a3, a4⟩)
    · exact Or.inr (Or.inr ⟨by show ¬ nOk n f S.1 pe = 0; rw [a1]; exact ne10, by show ¬ bOk n f (S.1 + 1) (pe - 1) 1 = 0; rw [a2]; exact ne10, a3, x1, x2, x3, x4, a4, x7, x8⟩)
  · have hl := hlt _ (by decide) h
    rw [stm_s h, rst_s (hat.trans h), hk, hP]
    rcases word_agree (pe := pe) hn hl hv x7 with ⟨a1, a2, a3⟩ | ⟨a1, a2, a3, a4⟩ | ⟨a1, a2, a3, a4⟩
    · exact Or.inl ⟨a1, a2, a3⟩
    · exact Or.inr (Or.inl ⟨by show ¬ nOk n f S.1 pe = 0; rw [a1]; exact ne10, a2, a3, a4⟩)
    · exact Or.inr (Or.inr ⟨by show ¬ nOk n f S.1 pe = 0; rw [a1]; exact ne10, by show ¬ bOk n f (S.1 + 1) (pe - 1) 1 = 0; rw [a2]; exact ne10, a3, x1, x2, x3, x4, x6, a4, x8⟩)
  · have hl := hlt _ (by decide) h
    rw [stm_d h, rst_d (hat.trans h), hk, hP]
    rcases deaf_agree (pe := pe) hn hl x3 with ⟨a1, a2, a3⟩ | ⟨a1, a2, a3, a4⟩ | ⟨a1, a2, a3, a4⟩
    · exact Or.inl ⟨a1, a2, a3⟩
    · exact Or.inr (Or.inl ⟨by show ¬ dfOk n f S.1 pe = 0; rw [a1]; exact ne10, a2, a3, a4⟩)
    · exact Or.inr (Or.inr ⟨by show ¬ dfOk n f S.1 pe = 0; rw [a1]; exact ne10, by show ¬ bOk n f (S.1 + 1) (pe - 1) 0 = 0; rw [a2]; exact ne10, a3, x1, x2, a4, x4, x6, x7, x8⟩)
  · exact none (stm_0 h1 h2 h3 h4 h5 h6) (rst_0 (fun q => h1 (hat.symm.trans q.1)) (fun q => h2 (hat.symm.trans q.1)) (by rw [hat]; exact h3) (by rw [hat]; exact h4) (by rw [hat]; exact h5) (by rw [hat]; exact h6))
/-- what the two say of a whole text -/
abbrev RDA (v : Nat) (a : Int32) (S : TXT) (b c : Int32) (R : RTX) : Prop := c = a ∧ ((b = 0 ∧ ¬ a = -1) ∨ (¬ b = 0 ∧ a = -1 ∧ RXT v S R))
theorem nI_nm1 {k : Nat} (h : k ≤ 400) : ¬ nI k = -1 := fun e => by
  have e2 := congrArg Int32.toInt e
  rw [nI_toInt (by omega), show (-1 : Int32).toInt = -1 from by decide] at e2
  omega
theorem rdl_agree {n v : Nat} {f : Nat → Int32} {pe : Int32} {P : Nat → Int32} (hn : n ≤ 400) (hv : v ≤ 10) (hP : P v = pe) : ∀ (m : Nat) (S : TXT) (R : RTX), skn n f R.1 = S.1 → S.1 ≤ n → n + 1 ≤ m + S.1 → RXT v S R →
    RDA v (rdl n f pe m S).1 (rdl n f pe m S).2 (rdm n f v P m R).1 (rdm n f v P m R).2.1 (rdm n f v P m R).2.2
  | 0, S, R, hk, hS, hm, hX => by omega
  | m + 1, S, R, hk, hS, hm, hX => by
    rw [rdl, rdm, hk]
    rcases Nat.lt_or_ge S.1 n with hlt | hge
    · rw [if_neg (by omega : ¬ n ≤ S.1)]
      by_cases h59 : atv n f (nI S.1) = 59
      · rw [if_neg (not_not_intro h59), if_neg (not_not_intro h59)]
        have hc : (R.2.2.1 v).toNatClampNeg = S.2.1 := by rw [hX.2.1, nI_clamp (by have := hX.1; omega)]
        rw [hc]
        have h1 := skn_le (f := f) (show S.1 + 1 ≤ n by omega)
        have A := stm_agree (c := S.2.1) (P := P) (pe := pe) (S := (skn n f (S.1 + 1), S.2)) (R := (S.1 + 1, R.2)) hn hv rfl h1.2 hP rfl hX
        have B := stm_le (f := f) (pe := pe) (S := (skn n f (S.1 + 1), S.2)) hn h1.2 hX.1
        generalize stm n f pe (skn n f (S.1 + 1), S.2) = Z at A B ⊢
        generalize rst n f v S.2.1 P (S.1 + 1, R.2) = Y at A ⊢
        have B1 : skn n f (S.1 + 1) ≤ Z.2.1 := B.1
        rcases A with ⟨a1, a2, a3⟩ | ⟨a1, a2, a3, a4⟩ | ⟨a1, a2, a3, a4⟩
        · rw [if_pos a1, if_pos a2]
          exact ⟨a3, Or.inl ⟨rfl, nI_nm1 (by have := B.2.1; omega)⟩⟩
        · rw [if_neg a1, if_pos a2]
          have e := DG_sk hn B.2.1 a4
          obtain ⟨d1, -, d3⟩ := DG_at hn (by have := B.2.1; omega) a4
          match m, hm with
          | 0, hm => omega
          | m + 1, hm =>
            rw [rdl, e, if_neg (by show ¬ n ≤ Z.2.1; omega), if_pos d3]
            exact ⟨a3, Or.inl ⟨rfl, nI_nm1 (by show Z.2.1 ≤ 400; omega)⟩⟩
        · rw [if_neg a1, if_neg a2]
          have h2 := skn_le (f := f) B.2.1
          exact rdl_agree hn hv hP m (skn n f Z.2.1, Z.2.2) Y.2.2 (by rw [a3]) h2.2 (by show n + 1 ≤ m + skn n f Z.2.1; omega) a4
      · rw [if_pos h59, if_pos h59, if_neg (fun q => by
          have e2 := congrArg Int32.toInt q
          rw [nI_toInt (by omega), nI_toInt (by omega)] at e2
          omega)]
        exact ⟨fl_m1 _, Or.inl ⟨rfl, nI_nm1 (by omega)⟩⟩
    · have e : S.1 = n := by omega
      have h59 : ¬ atv n f (nI S.1) = 59 := by rw [atv_no hn (by omega) (by omega)]; decide
      rw [if_pos (by omega : n ≤ S.1), if_pos h59, if_pos (by rw [e])]
      exact ⟨rfl, Or.inr ⟨ne10, rfl, hX⟩⟩
theorem RXT_0 {v k k' : Nat} {N : Int32} {L : Nat → Int32} {S : RTX} : RXT v (TXS0 k L) (rt0 v k' N S) := by
  refine ⟨Nat.zero_le _, upd_eq, upd_eq, fun j hj => ?_, fun j hj => ?_, fun j hj => ?_, fun i hi => absurd hi (Nat.not_lt_zero _)⟩ <;> exact if_pos ⟨by omega, by omega⟩
theorem rd_agree {n v : Nat} {f : Nat → Int32} {L P : Nat → Int32} {S : RTX} (hn : n ≤ 400) (hv : v ≤ 10) : (rdv n f v P S).2.1 = (rdx n f L).1 ∧ (((rdv n f v P S).1 = 0 ∧ ¬ (rdx n f L).1 = -1) ∨ (¬ (rdv n f v P S).1 = 0 ∧ (rdx n f L).1 = -1 ∧ (rdv n f v P S).2.2.1 v = (rdx n f L).2.1 ∧ RXT v (rdx n f L).2.2 (rdv n f v P S).2.2.2)) := by
  have h0 := skn_le (n := n) (f := f) (Nat.zero_le n)
  unfold rdx rdv
  by_cases h : atv n f (nI (skn n f 0)) = 112
  · rw [if_neg (not_not_intro h), if_neg (not_not_intro h)]
    have hlt : skn n f 0 < n := at_lt hn (by omega) (by rw [h]; decide)
    rcases num_tri (f := f) 1 7 (-1) hn (show skn n f 0 + 1 ≤ n by omega) z_n1 with ⟨a1, a2, a3⟩ | ⟨a1, a2, a3, a4, a5, a6, a7, a8⟩
    · rw [if_pos a1, if_pos a2]
      exact ⟨a3, Or.inl ⟨rfl, nI_nm1 (Nat.le_trans (nump_le hn (by omega)) hn)⟩⟩
    · rw [if_neg a1]
      rcases a8 with ⟨d1, d2, d3⟩ | d1
      · rw [if_pos d1, a5, DG_sk hn a7 d3]
        obtain ⟨e1, -, e3⟩ := DG_at hn (by omega) d3
        rw [rdl, if_neg (by show ¬ n ≤ nk2 n f (skn n f 0 + 1) + 1; omega), if_pos e3]
        exact ⟨d2, Or.inl ⟨rfl, nI_nm1 (by show nk2 n f (skn n f 0 + 1) + 1 ≤ 400; omega)⟩⟩
      · rw [if_neg d1, a5, a4, a6]
        have h2 := skn_le (f := f) a7
        generalize nk2 n f (skn n f 0 + 1) + 1 = z at a7 h2 ⊢
        generalize nval n f (skn n f 0 + 1) = w
        have hR : RXT v (TXS0 (skn n f z) L) (rt0 v z w S) := RXT_0
        have A := rdl_agree (pe := w) (P := upd P v w) hn hv upd_eq (n + 1) (TXS0 (skn n f z) L) (rt0 v z w S) rfl h2.2 (Nat.le_add_right _ _) hR
        obtain ⟨A1, A2⟩ := A
        refine ⟨A1, ?_⟩
        rcases A2 with ⟨b1, b2⟩ | ⟨b1, b2, b3⟩
        · exact Or.inl ⟨b1, b2⟩
        · exact Or.inr ⟨b1, b2, upd_eq, b3⟩
  · rw [if_pos h, if_pos h]
    exact ⟨fl_m1 _, Or.inl ⟨rfl, nI_nm1 (by omega)⟩⟩

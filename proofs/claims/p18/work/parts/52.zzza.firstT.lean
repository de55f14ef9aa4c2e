/-! the lowest row of an hour with a property -/
/-- the lowest one among the rows that go on as r0 does up to fj -/
def First (p : Nat) (ch : Nat → Int32) (cond : (Nat → Nat) → Prop) (fj : Nat) (r0 r : Nat → Nat) : Prop := RWp p ch p r ∧ (∀ a : Nat, a < fj → r a = r0 a) ∧ cond r ∧ ∀ a : Nat, fj ≤ a → a < p → ∀ r2 : Nat → Nat, RWp p ch p r2 → (∀ b : Nat, b < a → r2 b = r b) → r2 a < r a → ¬ cond r2
theorem First.uniq {p : Nat} {ch : Nat → Int32} {cond : (Nat → Nat) → Prop} {r0 r r2 : Nat → Nat} (h : First p ch cond 0 r0 r) (h2 : First p ch cond 0 r0 r2) : ∀ a : Nat, a < p → r a = r2 a := by
  have key : ∀ n a : Nat, a < n → a < p → r a = r2 a := by
    intro n
    induction n with
    | zero => intro a ha; exact absurd ha (Nat.not_lt_zero _)
    | succ n ih =>
      intro a ha hp
      rcases Nat.lt_trichotomy (r a) (r2 a) with z | z | z
      · exact absurd h.2.2.1 (h2.2.2.2 a (Nat.zero_le _) hp r h.1 (fun b hb => ih b (by omega) (by omega)) z)
      · exact z
      · exact absurd h2.2.2.1 (h.2.2.2 a (Nat.zero_le _) hp r2 h2.1 (fun b hb => (ih b (by omega) (by omega)).symm) z)
  exact fun a ha => key p a ha ha
/-- the list's first set with a property comes from this row -/
def FSs (Q : Int32 → Prop) (S O : Nat → Int32) (n : Int32) (p : Nat) (r : Nat → Nat) : Prop := ∃ i : Nat, i < tN n ∧ Q (S i) ∧ S i = rset r p ∧ O i = rval r p ∧ ∀ j : Nat, j < i → ¬ Q (S j)
def FSn (Q : Int32 → Prop) (S : Nat → Int32) (n : Int32) : Prop := ∀ i : Nat, i < tN n → ¬ Q (S i)
abbrev MQX (p : Nat) (ch : Nat → Int32) (Q : Int32 → Prop) : (Nat → Nat) → Prop := fun r => rmax p ch r ∧ Q (rset r p)
def FXX (Q : Int32 → Prop) (p : Nat) (C : Nat → Int32) (fj : Nat) (r0 : Nat → Nat) (S O : Nat → Int32) (n : Int32) : Prop := (FSn Q S n ∧ ∀ r : Nat → Nat, RWp p C p r → (∀ a : Nat, a < fj → r a = r0 a) → ¬ MQX p C Q r) ∨ ∃ r : Nat → Nat, FSs Q S O n p r ∧ First p C (MQX p C Q) fj r0 r
def FXK (Q : Int32 → Prop) (p : Nat) (C : Nat → Int32) (fj k : Nat) (r0 : Nat → Nat) (S O : Nat → Int32) (n : Int32) : Prop := (FSn Q S n ∧ ∀ r : Nat → Nat, RWp p C p r → (∀ a : Nat, a < fj → r a = r0 a) → r fj < k → ¬ MQX p C Q r) ∨ ∃ r : Nat → Nat, FSs Q S O n p r ∧ First p C (MQX p C Q) fj r0 r ∧ r fj < k
theorem mq_cong {p : Nat} {C : Nat → Int32} {Q : Int32 → Prop} {r r2 : Nat → Nat} (e : ∀ a : Nat, a < p → r2 a = r a) (h : MQX p C Q r) : MQX p C Q r2 := ⟨rmax_cong e h.1, by rw [rset_cong p e]; exact h.2⟩
theorem take_first {p : Nat} {C S O M : Nat → Int32} {n : Int32} {r : Nat → Nat} {Q : Int32 → Prop} (hp : p ≤ 7) (hr : RWp p C p r) (hI : RI S M n) : (∀ r2 : Nat → Nat, FSs Q S O n p r2 → FSs Q (F_X5_take S O M C n p (rset r p) (rsil r p) (rval r p)).1 (F_X5_take S O M C n p (rset r p) (rsil r p) (rval r p)).2.1 (F_X5_take S O M C n p (rset r p) (rsil r p) (rval r p)).2.2.2 p r2) ∧ (FSn Q S n → FXX Q p C p r (F_X5_take S O M C n p (rset r p) (rsil r p) (rval r p)).1 (F_X5_take S O M C n p (rset r p) (rsil r p) (rval r p)).2.1 (F_X5_take S O M C n p (rset r p) (rsil r p) (rval r p)).2.2.2) := by
  have h7 : ∀ a : Nat, a < p → r a ≤ 7 := fun a ha => hr.le hp ha
  obtain ⟨q1, q2⟩ := s7_num (rset_7 h7)
  have hn := hI.2.1
  have nocond : ¬ MQX p C Q r → ∀ r2 : Nat → Nat, RWp p C p r2 → (∀ a : Nat, a < p → r2 a = r a) → ¬ MQX p C Q r2 := fun z r2 _ e y => z (mq_cong (fun a ha => (e a ha).symm) y)
  have top : MQX p C Q r → First p C (MQX p C Q) p r r := fun z => ⟨hr, fun _ _ => rfl, z, fun a h1 h2 => absurd h2 (by omega)⟩
  show (∀ r2 : Nat → Nat, FSs Q S O n p r2 → FSs Q (L1_X5_take S O M C n p (rset r p) (rsil r p) (rval r p) (p + 1) 0).1 (L1_X5_take S O M C n p (rset r p) (rsil r p) (rval r p) (p + 1) 0).2.1 (L1_X5_take S O M C n p (rset r p) (rsil r p) (rval r p) (p + 1) 0).2.2.2 p r2) ∧ (FSn Q S n → FXX Q p C p r (L1_X5_take S O M C n p (rset r p) (rsil r p) (rval r p) (p + 1) 0).1 (L1_X5_take S O M C n p (rset r p) (rsil r p) (rval r p) (p + 1) 0).2.1 (L1_X5_take S O M C n p (rset r p) (rsil r p) (rval r p) (p + 1) 0).2.2.2)
  by_cases hm : ∀ a : Nat, 0 ≤ a → a < p → hasv (rsil r p) (nI a) = 0 ∨ C a &&& (rset r p ^^^ (-1 : Int32)) = 0
  · rw [tk_yes hp (p + 1) 0 (by omega) (Nat.zero_le _) hm]
    have hx : rmax p C r := fun a ha e => by
      refine (hm a (Nat.zero_le _) ha).resolve_left fun z => ?_
      have z2 := (rsil_bit (r := r) p hp a (by omega)).mpr ⟨ha, e⟩
      exact (bt_hasv (by omega)).mpr z2 z
    unfold tkp
    by_cases c : M (tN (rset r p)) = 0
    · rw [if_pos c]
      try dsimp only
      have en : tN (nI (tN n + 1)) = tN n + 1 := tN_nI (by omega)
      constructor
      · rintro r2 ⟨i, hi, a1, a2, a3, a4⟩
        refine ⟨i, by omega, ?_, ?_, ?_, fun j hj => ?_⟩
        · rw [upd_ne (by omega)]; exact a1
        · rw [upd_ne (by omega)]; exact a2
        · rw [upd_ne (by omega)]; exact a3
        · rw [upd_ne (by omega)]; exact a4 j hj
      · intro hF
        by_cases hQ : Q (rset r p)
        · refine Or.inr ⟨r, ⟨tN n, by omega, ?_, ?_, ?_, fun j hj => ?_⟩, top ⟨hx, hQ⟩⟩
          · rw [upd_eq]; exact hQ
          · rw [upd_eq]
          · rw [upd_eq]
          · rw [upd_ne (by omega)]; exact hF j hj
        · refine Or.inl ⟨fun i hi => ?_, nocond fun z => hQ z.2⟩
          by_cases e : i = tN n
          · rw [e, upd_eq]; exact hQ
          · rw [upd_ne e]; exact hF i (by omega)
    · rw [if_neg c]
      refine ⟨fun _ h => h, fun hF => Or.inl ⟨hF, nocond fun z => ?_⟩⟩
      obtain ⟨i, hi, e⟩ := (hI.2.2.2.2 _ q2).mp c
      exact hF i hi (by rw [e, ← q1]; exact z.2)
  · have hm2 : ∃ a : Nat, a < p ∧ ¬ hasv (rsil r p) (nI a) = 0 ∧ ¬ C a &&& (rset r p ^^^ (-1 : Int32)) = 0 := by
      refine Classical.byContradiction fun z => hm fun a _ ha => ?_
      by_cases z1 : hasv (rsil r p) (nI a) = 0
      · exact Or.inl z1
      · by_cases z2 : C a &&& (rset r p ^^^ (-1 : Int32)) = 0
        · exact Or.inr z2
        · exact absurd ⟨a, ha, z1, z2⟩ z
    obtain ⟨a, ha, z1, z2⟩ := hm2
    rw [tk_no hp ha z1 z2 (p + 1) 0 (by omega) (Nat.zero_le _)]
    refine ⟨fun _ h => h, fun hF => Or.inl ⟨hF, nocond fun z => ?_⟩⟩
    exact z2 (z.1 a ha ((rsil_bit (r := r) p hp a (by omega)).mp ((bt_hasv (by omega)).mp z1)).2)
section
variable {p fj : Nat} {C : Nat → Int32} {R : FAT} {r : Nat → Nat} {Q : Int32 → Prop}
theorem fl_first (hp : p ≤ 7) (hfj : fj < p) (hr : RWp p C fj r) (hRI : ∀ (S O M : Nat → Int32) (n ca si rw_ : Int32), s7 ca → RI S M n → RI (R (fj + 1) ca si rw_ S O M n).1 (R (fj + 1) ca si rw_ S O M n).2.2.1 (R (fj + 1) ca si rw_ S O M n).2.2.2)
    (hfirst : ∀ r : Nat → Nat, RWp p C (fj + 1) r → ∀ (S O M : Nat → Int32) (n : Int32), RI S M n → (∀ r2 : Nat → Nat, FSs Q S O n p r2 → FSs Q (R (fj + 1) (rset r (fj + 1)) (rsil r (fj + 1)) (rval r (fj + 1)) S O M n).1 (R (fj + 1) (rset r (fj + 1)) (rsil r (fj + 1)) (rval r (fj + 1)) S O M n).2.1 (R (fj + 1) (rset r (fj + 1)) (rsil r (fj + 1)) (rval r (fj + 1)) S O M n).2.2.2 p r2) ∧ (FSn Q S n → FXX Q p C (fj + 1) r (R (fj + 1) (rset r (fj + 1)) (rsil r (fj + 1)) (rval r (fj + 1)) S O M n).1 (R (fj + 1) (rset r (fj + 1)) (rsil r (fj + 1)) (rval r (fj + 1)) S O M n).2.1 (R (fj + 1) (rset r (fj + 1)) (rsil r (fj + 1)) (rval r (fj + 1)) S O M n).2.2.2))
    {S O M : Nat → Int32} {n : Int32} (hI : RI S M n) : ∀ k : Nat, k ≤ p → (∀ r2 : Nat → Nat, FSs Q S O n p r2 → FSs Q (L1_X5_findAll C fj (rset r fj) (rsil r fj) (rval r fj) R S O M n k).1 (L1_X5_findAll C fj (rset r fj) (rsil r fj) (rval r fj) R S O M n k).2.1 (L1_X5_findAll C fj (rset r fj) (rsil r fj) (rval r fj) R S O M n k).2.2.2 p r2) ∧ (FSn Q S n → FXK Q p C fj k r (L1_X5_findAll C fj (rset r fj) (rsil r fj) (rval r fj) R S O M n k).1 (L1_X5_findAll C fj (rset r fj) (rsil r fj) (rval r fj) R S O M n k).2.1 (L1_X5_findAll C fj (rset r fj) (rsil r fj) (rval r fj) R S O M n k).2.2.2)
  | 0, _ => ⟨fun _ h => h, fun h => Or.inl ⟨h, fun _ _ _ z => absurd z (Nat.not_lt_zero _)⟩⟩
  | k + 1, hk => by
    obtain ⟨i1, i2⟩ := fl_first hp hfj hr hRI hfirst hI (O := O) k (by omega)
    have h7 : ∀ a : Nat, a < fj → r a ≤ 7 := fun a ha => hr.le hp ha
    have hi2 := RI_fl (C := C) (O := O) (si := rsil r fj) (rw_ := rval r fj) (rset_7 h7) hRI hI k (by omega)
    have e : L1_X5_findAll C fj (rset r fj) (rsil r fj) (rval r fj) R S O M n (k + 1) = L1_X5_findAlls C fj (rset r fj) (rsil r fj) (rval r fj) R k (L1_X5_findAll C fj (rset r fj) (rsil r fj) (rval r fj) R S O M n k).1 (L1_X5_findAll C fj (rset r fj) (rsil r fj) (rval r fj) R S O M n k).2.1 (L1_X5_findAll C fj (rset r fj) (rsil r fj) (rval r fj) R S O M n k).2.2.1 (L1_X5_findAll C fj (rset r fj) (rsil r fj) (rval r fj) R S O M n k).2.2.2 := rfl
    rw [e]
    generalize L1_X5_findAll C fj (rset r fj) (rsil r fj) (rval r fj) R S O M n k = u at i1 i2 hi2 ⊢
    have hbit : ¬ hasv (C fj &&& (rset r fj ^^^ (-1 : Int32))) (nI k) = 0 ↔ (bt (C fj) k = true ∧ ∀ b : Nat, b < fj → ¬ r b = k) := by
      rw [bt_hasv (by omega), b_and, b_nt _ (by omega), Bool.and_eq_true, Bool.not_eq_true']
      refine and_congr Iff.rfl ?_
      constructor
      · intro z b hb q
        have := (rset_bit fj h7 k (by omega)).mpr ⟨b, hb, q, by omega⟩
        rw [z] at this; cases this
      · intro z
        cases q : bt (rset r fj) k with
        | false => rfl
        | true =>
          obtain ⟨b, hb, q1, -⟩ := (rset_bit fj h7 k (by omega)).mp q
          exact absurd q1 (z b hb)
    by_cases c : hasv (C fj &&& (rset r fj ^^^ (-1 : Int32))) (nI k) = 0
    · have e2 : L1_X5_findAlls C fj (rset r fj) (rsil r fj) (rval r fj) R k u.1 u.2.1 u.2.2.1 u.2.2.2 = (u.1, u.2.1, u.2.2.1, u.2.2.2) := by rw [L1_X5_findAlls, if_pos c]
      rw [e2]
      refine ⟨i1, fun hF => ?_⟩
      rcases i2 hF with ⟨a1, a2⟩ | ⟨r2, a1, a2, a3⟩
      · refine Or.inl ⟨a1, fun r2 b1 b2 b3 => ?_⟩
        by_cases q : r2 fj = k
        · exfalso
          rcases b1 fj hfj with z | ⟨z1, z2, z3⟩
          · omega
          · rw [q] at z2
            exact hbit.mpr ⟨z2, fun b hb y => z3 b hb (by rw [b2 b hb, y, q])⟩ c
        · exact a2 r2 b1 b2 (by omega)
      · exact Or.inr ⟨r2, a1, a2, by omega⟩
    · have hcb := hbit.mp c
      have hk7 : ¬ k = 7 := by omega
      have e2 : L1_X5_findAlls C fj (rset r fj) (rsil r fj) (rval r fj) R k u.1 u.2.1 u.2.2.1 u.2.2.2 = R (fj + 1) (rset (rput r fj k) (fj + 1)) (rsil (rput r fj k) (fj + 1)) (rval (rput r fj k) (fj + 1)) u.1 u.2.1 u.2.2.1 u.2.2.2 := by
        rw [L1_X5_findAlls, if_neg c, rset_call hk7, rsil_call hk7, rval_put] <;> rfl
      rw [e2]
      obtain ⟨g1, g2⟩ := hfirst (rput r fj k) (hr.call (by omega) hcb.1 hcb.2) u.1 u.2.1 u.2.2.1 u.2.2.2 hi2
      refine ⟨fun r2 h => g1 r2 (i1 r2 h), fun hF => ?_⟩
      have same : ∀ r2 : Nat → Nat, (∀ a : Nat, a < fj → r2 a = r a) → r2 fj = k → ∀ a : Nat, a < fj + 1 → r2 a = rput r fj k a := fun r2 b2 q a ha => by
        by_cases y : a = fj
        · rw [y, rput_eq]; exact q
        · rw [rput_ne y]; exact b2 a (by omega)
      rcases i2 hF with ⟨a1, a2⟩ | ⟨r2, a1, a2, a3⟩
      · rcases g2 a1 with ⟨b1, b2⟩ | ⟨r2, b1, b2⟩
        · refine Or.inl ⟨b1, fun r2 d1 d2 d3 => ?_⟩
          by_cases q : r2 fj = k
          · exact b2 r2 d1 (same r2 d2 q)
          · exact a2 r2 d1 d2 (by omega)
        · obtain ⟨d1, d2, d3, d4⟩ := b2
          have df : r2 fj = k := by rw [d2 fj (by omega), rput_eq]
          refine Or.inr ⟨r2, b1, ⟨d1, fun a ha => (d2 a (by omega)).trans (rput_lt a ha), d3, fun a h1 h2 r3 f1 f2 f3 => ?_⟩, by omega⟩
          by_cases y : a = fj
          · rw [y] at f2 f3
            exact a2 r3 f1 (fun b hb => (f2 b hb).trans ((d2 b (by omega)).trans (rput_lt b hb))) (by omega)
          · exact d4 a (by omega) h2 r3 f1 f2 f3
      · exact Or.inr ⟨r2, g1 r2 a1, a2, by omega⟩
end
theorem FA_first {p : Nat} {C : Nat → Int32} {Q : Int32 → Prop} (hp : p ≤ 7) : ∀ f fj : Nat, p < fj + f → fj ≤ p → ∀ r : Nat → Nat, RWp p C fj r → ∀ (S O M : Nat → Int32) (n : Int32), RI S M n → (∀ r2 : Nat → Nat, FSs Q S O n p r2 → FSs Q (FA C p f fj (rset r fj) (rsil r fj) (rval r fj) S O M n).1 (FA C p f fj (rset r fj) (rsil r fj) (rval r fj) S O M n).2.1 (FA C p f fj (rset r fj) (rsil r fj) (rval r fj) S O M n).2.2.2 p r2) ∧ (FSn Q S n → FXX Q p C fj r (FA C p f fj (rset r fj) (rsil r fj) (rval r fj) S O M n).1 (FA C p f fj (rset r fj) (rsil r fj) (rval r fj) S O M n).2.1 (FA C p f fj (rset r fj) (rsil r fj) (rval r fj) S O M n).2.2.2)
  | 0, fj, h, h2, _, _, _, _, _, _, _ => absurd h (by omega)
  | f + 1, fj, h, h2, r, hr, S, O, M, n, hI => by
    show (∀ r2 : Nat → Nat, FSs Q S O n p r2 → FSs Q (F_X5_findAll S O M C n p fj (rset r fj) (rsil r fj) (rval r fj) (FA C p f)).1 (F_X5_findAll S O M C n p fj (rset r fj) (rsil r fj) (rval r fj) (FA C p f)).2.1 (F_X5_findAll S O M C n p fj (rset r fj) (rsil r fj) (rval r fj) (FA C p f)).2.2.2 p r2) ∧ (FSn Q S n → FXX Q p C fj r (F_X5_findAll S O M C n p fj (rset r fj) (rsil r fj) (rval r fj) (FA C p f)).1 (F_X5_findAll S O M C n p fj (rset r fj) (rsil r fj) (rval r fj) (FA C p f)).2.1 (F_X5_findAll S O M C n p fj (rset r fj) (rsil r fj) (rval r fj) (FA C p f)).2.2.2)
    unfold F_X5_findAll
    by_cases c1 : nI fj < nI p
    · have hlt : fj < p := (nI_ltI (by omega) (by omega)).mp c1
      have h7 : ∀ a : Nat, a < fj → r a ≤ 7 := fun a ha => hr.le hp ha
      rw [if_pos c1]
      obtain ⟨i1, i2⟩ := fl_first (Q := Q) hp hlt hr (fun S O M n ca si rw_ a b => FA_RI hp f (fj + 1) S O M n ca si rw_ a b) (fun r hr S O M n hI => FA_first hp f (fj + 1) (by omega) (by omega) r hr S O M n hI) hI (O := O) p (Nat.le_refl _)
      have hi2 := RI_fl (R := FA C p f) (C := C) (O := O) (si := rsil r fj) (rw_ := rval r fj) (rset_7 h7) (fun S O M n ca si rw_ a b => FA_RI hp f (fj + 1) S O M n ca si rw_ a b) hI p hp
      generalize L1_X5_findAll C fj (rset r fj) (rsil r fj) (rval r fj) (FA C p f) S O M n p = u at i1 i2 hi2 ⊢
      have e := FA_first (Q := Q) hp f (fj + 1) (by omega) (by omega) (rput r fj 7) hr.still u.1 u.2.1 u.2.2.1 u.2.2.2 hi2
      rw [rset_still, rsil_still, rval_put] at e
      obtain ⟨g1, g2⟩ := e
      refine ⟨fun r2 h => g1 r2 (i1 r2 h), fun hF => ?_⟩
      rcases i2 hF with ⟨a1, a2⟩ | ⟨r2, a1, a2, a3⟩
      · rcases g2 a1 with ⟨b1, b2⟩ | ⟨r2, b1, b2⟩
        · refine Or.inl ⟨b1, fun r2 d1 d2 => ?_⟩
          rcases d1 fj hlt with z | ⟨z1, -, -⟩
          · refine b2 r2 d1 fun a ha => ?_
            by_cases y : a = fj
            · rw [y, rput_eq]; exact z
            · rw [rput_ne y]; exact d2 a (by omega)
          · exact a2 r2 d1 d2 z1
        · obtain ⟨d1, d2, d3, d4⟩ := b2
          have df : r2 fj = 7 := by rw [d2 fj (by omega), rput_eq]
          refine Or.inr ⟨r2, b1, d1, fun a ha => (d2 a (by omega)).trans (rput_lt a ha), d3, fun a h1 h2 r3 f1 f2 f3 => ?_⟩
          by_cases y : a = fj
          · rw [y] at f2 f3
            refine a2 r3 f1 (fun b hb => (f2 b hb).trans ((d2 b (by omega)).trans (rput_lt b hb))) ?_
            rcases f1 fj hlt with z | ⟨z1, -, -⟩
            · omega
            · exact z1
          · exact d4 a (by omega) h2 r3 f1 f2 f3
      · exact Or.inr ⟨r2, g1 r2 a1, a2⟩
    · have hfj : fj = p := by
        have z : ¬ fj < p := fun z => c1 ((nI_ltI (by omega) (by omega)).mpr z)
        omega
      rw [if_neg c1]
      subst hfj
      exact take_first hp hr hI
/-! the rows of an hour: the first set with a property -/
theorem RWp.ch {p : Nat} {ch ch2 : Nat → Int32} {r : Nat → Nat} (h : RWp p ch p r) (e : ∀ a : Nat, a < p → ch2 a = ch a) : RWp p ch2 p r := fun a ha => by
  rw [e a ha]; exact h a ha
theorem rmax_ch {p : Nat} {ch ch2 : Nat → Int32} {r : Nat → Nat} (h : rmax p ch r) (e : ∀ a : Nat, a < p → ch2 a = ch a) : rmax p ch2 r := fun a ha q => by
  rw [e a ha]; exact h a ha q
theorem fR_first {p ho : Nat} {cA S O M fC : Nat → Int32} {n x tg : Int32} {Q : Int32 → Prop} (hp : p ≤ 7) (h : RI S M n) : (FSn Q (F_X7_findRows p cA S O M fC n x ho tg).1 (F_X7_findRows p cA S O M fC n x ho tg).2.2.2.2 ∧ ∀ r : Nat → Nat, RWp p (chX cA x ho tg) p r → ¬ MQX p (chX cA x ho tg) Q r) ∨ ∃ r : Nat → Nat, FSs Q (F_X7_findRows p cA S O M fC n x ho tg).1 (F_X7_findRows p cA S O M fC n x ho tg).2.1 (F_X7_findRows p cA S O M fC n x ho tg).2.2.2.2 p r ∧ First p (chX cA x ho tg) (MQX p (chX cA x ho tg) Q) 0 (fun _ => 7) r := by
  have e : ∀ a : Nat, a < p → L1_X7_findRows cA x ho tg fC p a = chX cA x ho tg a := fun a ha => fr_at p a ha
  have q := (FA_first (C := L1_X7_findRows cA x ho tg fC p) (Q := Q) hp 8 0 (by omega) (Nat.zero_le _) (fun _ => 7) (fun a ha => absurd ha (Nat.not_lt_zero _)) S O (F_X5_forget S M n) 0 (RI_forget h)).2 (fun i hi => absurd hi (by rw [show tN (0 : Int32) = 0 by decide]; exact Nat.not_lt_zero _))
  rcases q with ⟨a1, a2⟩ | ⟨r, a1, d1, d2, d3, d4⟩
  · refine Or.inl ⟨a1, fun r b1 b2 => ?_⟩
    exact a2 r (b1.ch e) (fun a ha => absurd ha (Nat.not_lt_zero _)) ⟨rmax_ch b2.1 e, b2.2⟩
  · refine Or.inr ⟨r, a1, d1.ch fun a ha => (e a ha).symm, fun a ha => absurd ha (Nat.not_lt_zero _), ⟨rmax_ch d3.1 fun a ha => (e a ha).symm, d3.2⟩, fun a h1 h2 r2 f1 f2 f3 f4 => ?_⟩
    exact d4 a h1 h2 r2 (f1.ch e) f2 f3 ⟨rmax_ch f4.1 e, f4.2⟩

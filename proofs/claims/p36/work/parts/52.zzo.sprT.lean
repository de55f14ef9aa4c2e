/-! rows of an hour: whom each one calls, 7 for nobody -/
def RWp (p : Nat) (ch : Nat → Int32) (j : Nat) (r : Nat → Nat) : Prop := ∀ a : Nat, a < j → r a = 7 ∨ (r a < p ∧ bt (ch a) (r a) = true ∧ ∀ b : Nat, b < a → ¬ r b = r a)
def rset (r : Nat → Nat) : Nat → Int32
  | 0 => 0
  | j + 1 => if r j = 7 then rset r j else rset r j ||| ((1 : Int32) <<< (nI (r j) &&& 31))
def rsil (r : Nat → Nat) : Nat → Int32
  | 0 => 0
  | j + 1 => if r j = 7 then rsil r j ||| ((1 : Int32) <<< (nI j &&& 31)) else rsil r j
def rval (r : Nat → Nat) : Nat → Int32
  | 0 => 0
  | j + 1 => rval r j ||| (nI (r j) <<< (nI (j * 3) &&& 31))
def rmax (p : Nat) (ch : Nat → Int32) (r : Nat → Nat) : Prop := ∀ a : Nat, a < p → r a = 7 → ch a &&& (rset r p ^^^ (-1 : Int32)) = 0
theorem RWp.le {p j a : Nat} {ch : Nat → Int32} {r : Nat → Nat} (h : RWp p ch j r) (hp : p ≤ 7) (ha : a < j) : r a ≤ 7 := by
  rcases h a ha with q | q
  · omega
  · have := q.1; omega
theorem RWp.mono {p j k : Nat} {ch : Nat → Int32} {r : Nat → Nat} (h : RWp p ch j r) (hk : k ≤ j) : RWp p ch k r := fun a ha => h a (by omega)
theorem RWp.cong {p j : Nat} {ch : Nat → Int32} {r r2 : Nat → Nat} (h : RWp p ch j r) (e : ∀ a : Nat, a < j → r2 a = r a) : RWp p ch j r2 := fun a ha => by
  rw [e a ha]
  rcases h a ha with q | ⟨q1, q2, q3⟩
  · exact Or.inl q
  · exact Or.inr ⟨q1, q2, fun b hb => by rw [e b (by omega)]; exact q3 b hb⟩
theorem rset_cong {r r2 : Nat → Nat} : ∀ j : Nat, (∀ a : Nat, a < j → r2 a = r a) → rset r2 j = rset r j
  | 0, _ => rfl
  | j + 1, h => by
    show (if r2 j = 7 then rset r2 j else rset r2 j ||| ((1 : Int32) <<< (nI (r2 j) &&& 31))) = if r j = 7 then rset r j else rset r j ||| ((1 : Int32) <<< (nI (r j) &&& 31))
    rw [h j (by omega), rset_cong j fun a ha => h a (by omega)]
theorem rsil_cong {r r2 : Nat → Nat} : ∀ j : Nat, (∀ a : Nat, a < j → r2 a = r a) → rsil r2 j = rsil r j
  | 0, _ => rfl
  | j + 1, h => by
    show (if r2 j = 7 then rsil r2 j ||| ((1 : Int32) <<< (nI j &&& 31)) else rsil r2 j) = if r j = 7 then rsil r j ||| ((1 : Int32) <<< (nI j &&& 31)) else rsil r j
    rw [h j (by omega), rsil_cong j fun a ha => h a (by omega)]
theorem rval_cong {r r2 : Nat → Nat} : ∀ j : Nat, (∀ a : Nat, a < j → r2 a = r a) → rval r2 j = rval r j
  | 0, _ => rfl
  | j + 1, h => by
    show rval r2 j ||| (nI (r2 j) <<< (nI (j * 3) &&& 31)) = rval r j ||| (nI (r j) <<< (nI (j * 3) &&& 31))
    rw [h j (by omega), rval_cong j fun a ha => h a (by omega)]
theorem rset_bit {r : Nat → Nat} : ∀ j : Nat, (∀ a : Nat, a < j → r a ≤ 7) → ∀ i : Nat, i < 32 → (bt (rset r j) i = true ↔ ∃ a : Nat, a < j ∧ r a = i ∧ ¬ r a = 7)
  | 0, _, i, _ => ⟨fun q => (by rw [show rset r 0 = 0 from rfl, b_0] at q; cases q), fun ⟨_, h, _⟩ => absurd h (Nat.not_lt_zero _)⟩
  | j + 1, h, i, hi => by
    have ih := rset_bit j (fun a ha => h a (by omega)) i hi
    have e : rset r (j + 1) = if r j = 7 then rset r j else rset r j ||| ((1 : Int32) <<< (nI (r j) &&& 31)) := rfl
    rw [e]
    by_cases q : r j = 7
    · rw [if_pos q, ih]
      constructor
      · rintro ⟨a, b, c⟩
        exact ⟨a, by omega, c⟩
      · rintro ⟨a, b, c, d⟩
        refine ⟨a, ?_, c, d⟩
        by_cases u : a = j
        · exact absurd (show r a = 7 by rw [u]; exact q) d
        · omega
    · rw [if_neg q, b_orsh (by have := h j (by omega); omega) hi, ih]
      constructor
      · rintro (⟨a, b, c, d⟩ | x)
        · exact ⟨a, by omega, c, d⟩
        · exact ⟨j, by omega, x.symm, q⟩
      · rintro ⟨a, b, c, d⟩
        by_cases u : a = j
        · exact Or.inr (by rw [← c, u])
        · exact Or.inl ⟨a, by omega, c, d⟩
theorem rset_7 {r : Nat → Nat} {j : Nat} (h : ∀ a : Nat, a < j → r a ≤ 7) : s7 (rset r j) := fun i h7 hi => by
  cases e : bt (rset r j) i with
  | false => rfl
  | true =>
    obtain ⟨a, ha, q1, q2⟩ := (rset_bit j h i hi).mp e
    have := h a ha
    exact absurd (show r a = 7 by omega) q2
theorem rsil_bit {r : Nat → Nat} : ∀ j : Nat, j ≤ 7 → ∀ i : Nat, i < 32 → (bt (rsil r j) i = true ↔ i < j ∧ r i = 7)
  | 0, _, i, _ => ⟨fun q => (by rw [show rsil r 0 = 0 from rfl, b_0] at q; cases q), fun h => absurd h.1 (Nat.not_lt_zero _)⟩
  | j + 1, hj, i, hi => by
    have ih := rsil_bit (r := r) j (by omega) i hi
    have e : rsil r (j + 1) = if r j = 7 then rsil r j ||| ((1 : Int32) <<< (nI j &&& 31)) else rsil r j := rfl
    rw [e]
    by_cases q : r j = 7
    · rw [if_pos q, b_orsh (by omega) hi, ih]
      constructor
      · rintro (⟨a, b⟩ | x)
        · exact ⟨by omega, b⟩
        · exact ⟨by omega, by rw [x]; exact q⟩
      · rintro ⟨a, b⟩
        by_cases u : i = j
        · exact Or.inr u
        · exact Or.inl ⟨by omega, b⟩
    · rw [if_neg q, ih]
      constructor
      · rintro ⟨a, b⟩
        exact ⟨by omega, b⟩
      · rintro ⟨a, b⟩
        refine ⟨?_, b⟩
        by_cases u : i = j
        · exact absurd (show r j = 7 by rw [← u]; exact b) q
        · omega
/-- the row with another one's call -/
def rput (r : Nat → Nat) (j x : Nat) : Nat → Nat := fun a => if a = j then x else r a
theorem rput_eq {r : Nat → Nat} {j x : Nat} : rput r j x j = x := if_pos rfl
theorem rput_ne {r : Nat → Nat} {j x a : Nat} (h : ¬ a = j) : rput r j x a = r a := if_neg h
theorem rput_lt {r : Nat → Nat} {j x : Nat} : ∀ a : Nat, a < j → rput r j x a = r a := fun a h => rput_ne (by omega)
theorem rset_call {r : Nat → Nat} {j x : Nat} (hx : ¬ x = 7) : rset (rput r j x) (j + 1) = rset r j ||| ((1 : Int32) <<< (nI x &&& 31)) := by
  have e : rset (rput r j x) (j + 1) = if rput r j x j = 7 then rset (rput r j x) j else rset (rput r j x) j ||| ((1 : Int32) <<< (nI (rput r j x j) &&& 31)) := rfl
  rw [e, rput_eq, if_neg hx, rset_cong j rput_lt]
theorem rset_still {r : Nat → Nat} {j : Nat} : rset (rput r j 7) (j + 1) = rset r j := by
  have e : rset (rput r j 7) (j + 1) = if rput r j 7 j = 7 then rset (rput r j 7) j else rset (rput r j 7) j ||| ((1 : Int32) <<< (nI (rput r j 7 j) &&& 31)) := rfl
  rw [e, rput_eq, if_pos rfl, rset_cong j rput_lt]
theorem rsil_call {r : Nat → Nat} {j x : Nat} (hx : ¬ x = 7) : rsil (rput r j x) (j + 1) = rsil r j := by
  have e : rsil (rput r j x) (j + 1) = if rput r j x j = 7 then rsil (rput r j x) j ||| ((1 : Int32) <<< (nI j &&& 31)) else rsil (rput r j x) j := rfl
  rw [e, rput_eq, if_neg hx, rsil_cong j rput_lt]
theorem rsil_still {r : Nat → Nat} {j : Nat} : rsil (rput r j 7) (j + 1) = rsil r j ||| ((1 : Int32) <<< (nI j &&& 31)) := by
  have e : rsil (rput r j 7) (j + 1) = if rput r j 7 j = 7 then rsil (rput r j 7) j ||| ((1 : Int32) <<< (nI j &&& 31)) else rsil (rput r j 7) j := rfl
  rw [e, rput_eq, if_pos rfl, rsil_cong j rput_lt]
theorem rval_put {r : Nat → Nat} {j x : Nat} : rval (rput r j x) (j + 1) = rval r j ||| (nI x <<< (nI (j * 3) &&& 31)) := by
  have e : rval (rput r j x) (j + 1) = rval (rput r j x) j ||| (nI (rput r j x j) <<< (nI (j * 3) &&& 31)) := rfl
  rw [e, rput_eq, rval_cong j rput_lt]
theorem RWp.call {p j x : Nat} {ch : Nat → Int32} {r : Nat → Nat} (h : RWp p ch j r) (hx : x < p) (hb : bt (ch j) x = true) (hn : ∀ b : Nat, b < j → ¬ r b = x) : RWp p ch (j + 1) (rput r j x) := fun a ha => by
  by_cases e : a = j
  · subst e
    rw [rput_eq]
    exact Or.inr ⟨hx, hb, fun b hb2 => by rw [rput_lt b hb2]; exact hn b hb2⟩
  · rw [rput_ne e]
    rcases h a (by omega) with q | ⟨q1, q2, q3⟩
    · exact Or.inl q
    · exact Or.inr ⟨q1, q2, fun b hb2 => by rw [rput_ne (by omega)]; exact q3 b hb2⟩
theorem RWp.still {p j : Nat} {ch : Nat → Int32} {r : Nat → Nat} (h : RWp p ch j r) : RWp p ch (j + 1) (rput r j 7) := fun a ha => by
  by_cases e : a = j
  · subst e
    rw [rput_eq]
    exact Or.inl rfl
  · rw [rput_ne e]
    rcases h a (by omega) with q | ⟨q1, q2, q3⟩
    · exact Or.inl q
    · exact Or.inr ⟨q1, q2, fun b hb2 => by rw [rput_ne (by omega)]; exact q3 b hb2⟩
/-! what the class finds: the sets of all rows to which no call can be added -/
section
variable {S O M C : Nat → Int32} {n ca si rw_ : Int32} {p : Nat}
def tkp (S O M : Nat → Int32) (n ca rw_ : Int32) : RST := if M (tN ca) = 0 then (upd S (tN n) ca, upd O (tN n) rw_, upd M (tN ca) 1, nI (tN n + 1)) else (S, O, M, n)
theorem tk_yes (hp : p ≤ 7) : ∀ m j : Nat, p < m + j → j ≤ p → (∀ a : Nat, j ≤ a → a < p → hasv si (nI a) = 0 ∨ C a &&& (ca ^^^ (-1 : Int32)) = 0) → L1_X5_take S O M C n p ca si rw_ m j = tkp S O M n ca rw_
  | 0, j, h, h2, _ => absurd h (by omega)
  | m + 1, j, h, h2, h3 => by
    rw [L1_X5_take]
    by_cases c1 : nI p ≤ nI j
    · rw [if_pos c1]; rfl
    · rw [if_neg c1]
      have hj : j < p := by
        have z : ¬ p ≤ j := fun z => c1 ((nI_leI (by omega) (by omega)).mpr z)
        omega
      by_cases q2 : hasv si (nI j) = 0
      · rw [if_pos q2]
        exact tk_yes hp m (j + 1) (by omega) (by omega) fun a ha => h3 a (by omega)
      · rw [if_neg q2, if_pos ((h3 j (Nat.le_refl _) hj).resolve_left q2)]
        exact tk_yes hp m (j + 1) (by omega) (by omega) fun a ha => h3 a (by omega)
theorem tk_no (hp : p ≤ 7) {a : Nat} (ha : a < p) (h3 : ¬ hasv si (nI a) = 0) (h4 : ¬ C a &&& (ca ^^^ (-1 : Int32)) = 0) : ∀ m j : Nat, p < m + j → j ≤ a → L1_X5_take S O M C n p ca si rw_ m j = (S, O, M, n)
  | 0, j, h, h2 => absurd h (by omega)
  | m + 1, j, h, h2 => by
    rw [L1_X5_take]
    have c1 : ¬ nI p ≤ nI j := fun z => by
      have := (nI_leI (a := p) (b := j) (by omega) (by omega)).mp z
      omega
    rw [if_neg c1]
    by_cases e : j = a
    · subst e
      rw [if_neg h3, if_neg h4]
    · by_cases q2 : hasv si (nI j) = 0
      · rw [if_pos q2]; exact tk_no hp ha h3 h4 m (j + 1) (by omega) (by omega)
      · rw [if_neg q2]
        by_cases q3 : C j &&& (ca ^^^ (-1 : Int32)) = 0
        · rw [if_pos q3]; exact tk_no hp ha h3 h4 m (j + 1) (by omega) (by omega)
        · rw [if_neg q3]
end
def ExR (p : Nat) (ch : Nat → Int32) (fj : Nat) (r : Nat → Nat) (s : Nat) : Prop := ∃ r2 : Nat → Nat, RWp p ch p r2 ∧ (∀ a : Nat, a < fj → r2 a = r a) ∧ rmax p ch r2 ∧ rset r2 p = nI s
theorem take_set {p : Nat} {C S O M : Nat → Int32} {n : Int32} {r : Nat → Nat} (hp : p ≤ 7) (hr : RWp p C p r) (hI : RI S M n) {s : Nat} (hs : s < 128) : ¬ (F_X5_take S O M C n p (rset r p) (rsil r p) (rval r p)).2.2.1 s = 0 ↔ ¬ M s = 0 ∨ ExR p C p r s := by
  have h7 : ∀ a : Nat, a < p → r a ≤ 7 := fun a ha => hr.le hp ha
  obtain ⟨q1, q2⟩ := s7_num (rset_7 h7)
  show ¬ (L1_X5_take S O M C n p (rset r p) (rsil r p) (rval r p) (p + 1) 0).2.2.1 s = 0 ↔ _
  by_cases hm : ∀ a : Nat, 0 ≤ a → a < p → hasv (rsil r p) (nI a) = 0 ∨ C a &&& (rset r p ^^^ (-1 : Int32)) = 0
  · rw [tk_yes hp (p + 1) 0 (by omega) (Nat.zero_le _) hm]
    have hx : rmax p C r := fun a ha e => by
      refine (hm a (Nat.zero_le _) ha).resolve_left fun z => ?_
      have z2 := (rsil_bit (r := r) p hp a (by omega)).mpr ⟨ha, e⟩
      exact (bt_hasv (by omega)).mpr z2 z
    unfold tkp
    by_cases c : M (tN (rset r p)) = 0
    · rw [if_pos c]
      try dsimp only
      by_cases e : s = tN (rset r p)
      · rw [e, upd_eq]
        exact ⟨fun _ => Or.inr ⟨r, hr, fun _ _ => rfl, hx, q1⟩, fun _ => by decide⟩
      · rw [upd_ne e]
        refine ⟨Or.inl, fun h => h.elim id fun ⟨r2, _, h2, _, h4⟩ => ?_⟩
        rw [rset_cong p h2, q1] at h4
        exact absurd ((nI_eq (by omega) (by omega)).mp h4).symm e
    · rw [if_neg c]
      refine ⟨Or.inl, fun h => h.elim id fun ⟨r2, _, h2, _, h4⟩ => ?_⟩
      rw [rset_cong p h2, q1] at h4
      rw [← (nI_eq (by omega) (by omega)).mp h4]
      exact c
  · have hm2 : ∃ a : Nat, a < p ∧ ¬ hasv (rsil r p) (nI a) = 0 ∧ ¬ C a &&& (rset r p ^^^ (-1 : Int32)) = 0 := by
      refine Classical.byContradiction fun z => hm fun a _ ha => ?_
      by_cases z1 : hasv (rsil r p) (nI a) = 0
      · exact Or.inl z1
      · by_cases z2 : C a &&& (rset r p ^^^ (-1 : Int32)) = 0
        · exact Or.inr z2
        · exact absurd ⟨a, ha, z1, z2⟩ z
    obtain ⟨a, ha, z1, z2⟩ := hm2
    rw [tk_no hp ha z1 z2 (p + 1) 0 (by omega) (Nat.zero_le _)]
    refine ⟨Or.inl, fun h => h.elim id fun ⟨r2, _, h2, h3, _⟩ => ?_⟩
    have e7 := ((rsil_bit (r := r) p hp a (by omega)).mp ((bt_hasv (by omega)).mp z1)).2
    have := h3 a ha ((h2 a ha).trans e7)
    rw [rset_cong p h2] at this
    exact absurd this z2
section
variable {p fj : Nat} {C : Nat → Int32} {R : FAT} {r : Nat → Nat}
theorem fl_set (hp : p ≤ 7) (hfj : fj < p) (hr : RWp p C fj r) (hRI : ∀ (S O M : Nat → Int32) (n ca si rw_ : Int32), s7 ca → RI S M n → RI (R (fj + 1) ca si rw_ S O M n).1 (R (fj + 1) ca si rw_ S O M n).2.2.1 (R (fj + 1) ca si rw_ S O M n).2.2.2)
    (hset : ∀ r : Nat → Nat, RWp p C (fj + 1) r → ∀ (S O M : Nat → Int32) (n : Int32), RI S M n → ∀ s : Nat, s < 128 → (¬ (R (fj + 1) (rset r (fj + 1)) (rsil r (fj + 1)) (rval r (fj + 1)) S O M n).2.2.1 s = 0 ↔ ¬ M s = 0 ∨ ExR p C (fj + 1) r s))
    {S O M : Nat → Int32} {n : Int32} (hI : RI S M n) : ∀ k : Nat, k ≤ p → ∀ s : Nat, s < 128 → (¬ (L1_X5_findAll C fj (rset r fj) (rsil r fj) (rval r fj) R S O M n k).2.2.1 s = 0 ↔ ¬ M s = 0 ∨ ∃ r2 : Nat → Nat, RWp p C p r2 ∧ (∀ a : Nat, a < fj → r2 a = r a) ∧ r2 fj < k ∧ rmax p C r2 ∧ rset r2 p = nI s)
  | 0, _, s, _ => ⟨Or.inl, fun h => h.elim id fun ⟨_, _, _, h, _⟩ => absurd h (Nat.not_lt_zero _)⟩
  | k + 1, hk, s, hs => by
    have ih := fl_set hp hfj hr hRI hset hI (O := O) k (by omega) s hs
    have h7 : ∀ a : Nat, a < fj → r a ≤ 7 := fun a ha => hr.le hp ha
    have hi2 := RI_fl (C := C) (O := O) (si := rsil r fj) (rw_ := rval r fj) (rset_7 h7) hRI hI k (by omega)
    have e : L1_X5_findAll C fj (rset r fj) (rsil r fj) (rval r fj) R S O M n (k + 1) = L1_X5_findAlls C fj (rset r fj) (rsil r fj) (rval r fj) R k (L1_X5_findAll C fj (rset r fj) (rsil r fj) (rval r fj) R S O M n k).1 (L1_X5_findAll C fj (rset r fj) (rsil r fj) (rval r fj) R S O M n k).2.1 (L1_X5_findAll C fj (rset r fj) (rsil r fj) (rval r fj) R S O M n k).2.2.1 (L1_X5_findAll C fj (rset r fj) (rsil r fj) (rval r fj) R S O M n k).2.2.2 := rfl
    rw [e]
    generalize L1_X5_findAll C fj (rset r fj) (rsil r fj) (rval r fj) R S O M n k = u at ih hi2 ⊢
    have hbit : ¬ hasv (C fj &&& (rset r fj ^^^ (-1 : Int32))) (nI k) = 0 ↔ (bt (C fj) k = true ∧ ∀ b : Nat, b < fj → ¬ r b = k) := by
      rw [bt_hasv (by omega), b_and, b_nt _ (by omega), Bool.and_eq_true, Bool.not_eq_true']
      refine and_congr Iff.rfl ?_
      constructor
      · intro z b hb q
        have := (rset_bit fj h7 k (by omega)).mpr ⟨b, hb, q, by omega⟩
        rw [z] at this; cases this
      · intro z
        cases q : bt (rset r fj) k with
        | false => rfl
        | true =>
          obtain ⟨b, hb, q1, -⟩ := (rset_bit fj h7 k (by omega)).mp q
          exact absurd q1 (z b hb)
    by_cases c : hasv (C fj &&& (rset r fj ^^^ (-1 : Int32))) (nI k) = 0
    · have e2 : L1_X5_findAlls C fj (rset r fj) (rsil r fj) (rval r fj) R k u.1 u.2.1 u.2.2.1 u.2.2.2 = (u.1, u.2.1, u.2.2.1, u.2.2.2) := by rw [L1_X5_findAlls, if_pos c]
      rw [e2]
      refine ih.trans (or_congr Iff.rfl ⟨?_, ?_⟩)
      · rintro ⟨r2, a1, a2, a3, a4, a5⟩
        exact ⟨r2, a1, a2, by omega, a4, a5⟩
      · rintro ⟨r2, a1, a2, a3, a4, a5⟩
        refine ⟨r2, a1, a2, ?_, a4, a5⟩
        by_cases q : r2 fj = k
        · exfalso
          rcases a1 fj hfj with z | ⟨z1, z2, z3⟩
          · omega
          · rw [q] at z2
            exact hbit.mpr ⟨z2, fun b hb y => z3 b hb (by rw [a2 b hb, y, q])⟩ c
        · omega
    · have hcb := hbit.mp c
      have hk7 : ¬ k = 7 := by omega
      have e2 : L1_X5_findAlls C fj (rset r fj) (rsil r fj) (rval r fj) R k u.1 u.2.1 u.2.2.1 u.2.2.2 = R (fj + 1) (rset (rput r fj k) (fj + 1)) (rsil (rput r fj k) (fj + 1)) (rval (rput r fj k) (fj + 1)) u.1 u.2.1 u.2.2.1 u.2.2.2 := by
        rw [L1_X5_findAlls, if_neg c, rset_call hk7, rsil_call hk7, rval_put] <;> rfl
      rw [e2, hset (rput r fj k) (hr.call (by omega) hcb.1 hcb.2) u.1 u.2.1 u.2.2.1 u.2.2.2 hi2 s hs, ih, or_assoc]
      refine or_congr Iff.rfl ⟨?_, ?_⟩
      · rintro (⟨r2, a1, a2, a3, a4, a5⟩ | ⟨r2, a1, a2, a4, a5⟩)
        · exact ⟨r2, a1, a2, by omega, a4, a5⟩
        · refine ⟨r2, a1, fun a ha => (a2 a (by omega)).trans (rput_lt a ha), ?_, a4, a5⟩
          rw [a2 fj (by omega), rput_eq]
          omega
      · rintro ⟨r2, a1, a2, a3, a4, a5⟩
        by_cases q : r2 fj = k
        · refine Or.inr ⟨r2, a1, fun a ha => ?_, a4, a5⟩
          by_cases y : a = fj
          · rw [y, rput_eq]; exact q
          · rw [rput_ne y]; exact a2 a (by omega)
        · exact Or.inl ⟨r2, a1, a2, by omega, a4, a5⟩
end
theorem FA_set {p : Nat} {C : Nat → Int32} (hp : p ≤ 7) : ∀ f fj : Nat, p < fj + f → fj ≤ p → ∀ r : Nat → Nat, RWp p C fj r → ∀ (S O M : Nat → Int32) (n : Int32), RI S M n → ∀ s : Nat, s < 128 → (¬ (FA C p f fj (rset r fj) (rsil r fj) (rval r fj) S O M n).2.2.1 s = 0 ↔ ¬ M s = 0 ∨ ExR p C fj r s)
  | 0, fj, h, h2, _, _, _, _, _, _, _, _, _ => absurd h (by omega)
  | f + 1, fj, h, h2, r, hr, S, O, M, n, hI, s, hs => by
    show ¬ (F_X5_findAll S O M C n p fj (rset r fj) (rsil r fj) (rval r fj) (FA C p f)).2.2.1 s = 0 ↔ _
    unfold F_X5_findAll
    by_cases c1 : nI fj < nI p
    · have hlt : fj < p := (nI_ltI (by omega) (by omega)).mp c1
      have h7 : ∀ a : Nat, a < fj → r a ≤ 7 := fun a ha => hr.le hp ha
      rw [if_pos c1]
      have hl := fl_set hp hlt hr (fun S O M n ca si rw_ a b => FA_RI hp f (fj + 1) S O M n ca si rw_ a b) (fun r hr S O M n hI => FA_set hp f (fj + 1) (by omega) (by omega) r hr S O M n hI) hI (O := O) p (Nat.le_refl _) s hs
      have hi2 := RI_fl (R := FA C p f) (C := C) (O := O) (si := rsil r fj) (rw_ := rval r fj) (rset_7 h7) (fun S O M n ca si rw_ a b => FA_RI hp f (fj + 1) S O M n ca si rw_ a b) hI p hp
      generalize L1_X5_findAll C fj (rset r fj) (rsil r fj) (rval r fj) (FA C p f) S O M n p = u at hl hi2 ⊢
      show ¬ (FA C p f (fj + 1) (rset r fj) (rsil r fj ||| ((1 : Int32) <<< (nI fj &&& 31))) (rval r fj ||| ((7 : Int32) <<< (nI (fj * 3) &&& 31))) u.1 u.2.1 u.2.2.1 u.2.2.2).2.2.1 s = 0 ↔ _
      have e := FA_set hp f (fj + 1) (by omega) (by omega) (rput r fj 7) hr.still u.1 u.2.1 u.2.2.1 u.2.2.2 hi2 s hs
      rw [rset_still, rsil_still, rval_put] at e
      refine e.trans ?_
      rw [hl, or_assoc]
      refine or_congr Iff.rfl ⟨?_, ?_⟩
      · rintro (⟨r2, a1, a2, a3, a4, a5⟩ | ⟨r2, a1, a2, a4, a5⟩)
        · exact ⟨r2, a1, a2, a4, a5⟩
        · exact ⟨r2, a1, fun a ha => (a2 a (by omega)).trans (rput_lt a ha), a4, a5⟩
      · rintro ⟨r2, a1, a2, a4, a5⟩
        rcases a1 fj hlt with z | ⟨z1, -, -⟩
        · refine Or.inr ⟨r2, a1, fun a ha => ?_, a4, a5⟩
          by_cases y : a = fj
          · rw [y, rput_eq]; exact z
          · rw [rput_ne y]; exact a2 a (by omega)
        · exact Or.inl ⟨r2, a1, a2, z1, a4, a5⟩
    · have hfj : fj = p := by
        have z : ¬ fj < p := fun z => c1 ((nI_ltI (by omega) (by omega)).mpr z)
        omega
      rw [if_neg c1]
      subst hfj
      exact take_set hp hr hI hs

/-! who hold together, on both sides: those whom one comes to from the first one along lines both may call by -/
/-- a line both may call by, from one to another one -/
def tw (L : Nat → Int32) (j a b : Nat) : Prop := b1 (L (j * 6 + 4)) = 0 ∧ ((lnA L j = a ∧ lnB L j = b) ∨ (lnB L j = a ∧ lnA L j = b))
theorem b_orsh {s : Int32} {c o : Nat} (hc : c < 32) (ho : o < 32) : bt (s ||| ((1 : Int32) <<< (nI c &&& 31))) o = true ↔ bt s o = true ∨ o = c := by
  rw [b_or, b_sh1 hc ho, Bool.or_eq_true, decide_eq_true_eq]
theorem nbs_bit {L : Nat → Int32} {p k o : Nat} (hp : p ≤ 7) (hk : k < 32) (ho : o < 32) : ∀ n : Nat, endsIn L n p → (bt (nbs L (nI k) n) o = true ↔ ∃ j : Nat, j < n ∧ tw L j k o)
  | 0, _ => by
    show bt 0 o = true ↔ _
    rw [b_0]
    exact ⟨fun q => (by cases q), fun ⟨j, q, _⟩ => absurd q (Nat.not_lt_zero j)⟩
  | n + 1, hE => by
    have ih := nbs_bit (L := L) (k := k) hp hk ho n (fun i hi => hE i (by omega))
    obtain ⟨qa, qb, hA, hB⟩ := ends_at hE hp (Nat.lt_succ_self n)
    have step : bt (nbs L (nI k) (n + 1)) o = true ↔ bt (nbs L (nI k) n) o = true ∨ tw L n k o := by
      show bt (nst L (nI k) n (nbs L (nI k) n)) o = true ↔ _
      unfold nst
      by_cases h1 : b1 (L (n * 6 + 4)) = 0
      · rw [if_neg (fun q => q h1), qa, qb]
        have eA : nI (lnA L n) = nI k ↔ lnA L n = k := nI_eq (by omega) (by omega)
        have eB : nI (lnB L n) = nI k ↔ lnB L n = k := nI_eq (by omega) (by omega)
        by_cases hb : lnB L n = k
        · rw [if_neg (fun q => q (eB.mpr hb)), b_orsh (by omega) ho]
          by_cases ha : lnA L n = k
          · rw [if_neg (fun q => q (eA.mpr ha)), b_orsh (by omega) ho]
            constructor
            · intro q
              rcases q with (q | q) | q
              · exact Or.inl q
              · exact Or.inr ⟨h1, Or.inl ⟨ha, q.symm⟩⟩
              · exact Or.inr ⟨h1, Or.inr ⟨hb, q.symm⟩⟩
            · intro q
              rcases q with q | ⟨_, ⟨_, q⟩ | ⟨_, q⟩⟩
              · exact Or.inl (Or.inl q)
              · exact Or.inl (Or.inr q.symm)
              · exact Or.inr q.symm
          · rw [if_pos (fun q => ha (eA.mp q))]
            constructor
            · intro q
              rcases q with q | q
              · exact Or.inl q
              · exact Or.inr ⟨h1, Or.inr ⟨hb, q.symm⟩⟩
            · intro q
              rcases q with q | ⟨_, ⟨q, _⟩ | ⟨_, q⟩⟩
              · exact Or.inl q
              · exact absurd q ha
              · exact Or.inr q.symm
        · rw [if_pos (fun q => hb (eB.mp q))]
          by_cases ha : lnA L n = k
          · rw [if_neg (fun q => q (eA.mpr ha)), b_orsh (by omega) ho]
            constructor
            · intro q
              rcases q with q | q
              · exact Or.inl q
              · exact Or.inr ⟨h1, Or.inl ⟨ha, q.symm⟩⟩
            · intro q
              rcases q with q | ⟨_, ⟨_, q⟩ | ⟨q, _⟩⟩
              · exact Or.inl q
              · exact Or.inr q.symm
              · exact absurd q hb
          · rw [if_pos (fun q => ha (eA.mp q))]
            constructor
            · exact Or.inl
            · intro q
              rcases q with q | ⟨_, ⟨q, _⟩ | ⟨q, _⟩⟩
              · exact q
              · exact absurd q ha
              · exact absurd q hb
      · rw [if_pos h1]
        exact ⟨Or.inl, fun q => q.elim id fun q => absurd q.1 h1⟩
    rw [step, ih]
    constructor
    · intro q
      rcases q with ⟨j, q1, q2⟩ | q
      · exact ⟨j, by omega, q2⟩
      · exact ⟨n, by omega, q⟩
    · intro q
      obtain ⟨j, q1, q2⟩ := q
      by_cases e : j = n
      · subst e; exact Or.inr q2
      · exact Or.inl ⟨j, by omega, q2⟩
/-- whom one comes to in so many steps -/
def Bl (L : Nat → Int32) (n p : Nat) : Nat → Nat → Prop
  | 0, o => o = 0
  | s + 1, o => Bl L n p s o ∨ ∃ c : Nat, c < p ∧ Bl L n p s c ∧ ∃ j : Nat, j < n ∧ tw L j c o
theorem hln_bit {L : Nat → Int32} {n p o : Nat} {held : Int32} (hp : p ≤ 7) (hE : endsIn L n p) (ho : o < 32) : ∀ k : Nat, k ≤ 7 → (bt (hln L n held k) o = true ↔ bt held o = true ∨ ∃ c : Nat, c < k ∧ bt held c = true ∧ ∃ j : Nat, j < n ∧ tw L j c o)
  | 0, _ => ⟨Or.inl, fun q => q.elim id fun ⟨c, q, _⟩ => absurd q (Nat.not_lt_zero c)⟩
  | k + 1, hk => by
    have ih := hln_bit (held := held) hp hE ho k (by omega)
    have hb := nbs_bit (k := k) hp (by omega) ho n hE
    have hh := bt_hasv (x := held) (b := k) (by omega)
    show bt (if hasv held (nI k) = 0 then hln L n held k else hln L n held k ||| nbs L (nI k) n) o = true ↔ _
    by_cases h : hasv held (nI k) = 0
    · rw [if_pos h, ih]
      constructor
      · intro q
        rcases q with q | ⟨c, q1, q2⟩
        · exact Or.inl q
        · exact Or.inr ⟨c, by omega, q2⟩
      · intro q
        rcases q with q | ⟨c, q1, q2, q3⟩
        · exact Or.inl q
        · by_cases e : c = k
          · subst e; exact absurd h (hh.mpr q2)
          · exact Or.inr ⟨c, by omega, q2, q3⟩
    · rw [if_neg h, b_or, Bool.or_eq_true, ih, hb]
      constructor
      · intro q
        rcases q with (q | ⟨c, q1, q2⟩) | q
        · exact Or.inl q
        · exact Or.inr ⟨c, by omega, q2⟩
        · exact Or.inr ⟨k, by omega, hh.mp h, q⟩
      · intro q
        rcases q with q | ⟨c, q1, q2, q3⟩
        · exact Or.inl (Or.inl q)
        · by_cases e : c = k
          · subst e; exact Or.inr q3
          · exact Or.inl (Or.inr ⟨c, by omega, q2, q3⟩)
theorem hld_bit {L : Nat → Int32} {n p : Nat} (hp : p ≤ 7) (hE : endsIn L n p) : ∀ (s o : Nat), o < 32 → (bt (hld L n p s) o = true ↔ Bl L n p s o)
  | 0, o, ho => by
    show bt 1 o = true ↔ o = 0
    rw [b_one o ho, decide_eq_true_eq]
  | s + 1, o, ho => by
    show bt (hln L n (hld L n p s) p) o = true ↔ (Bl L n p s o ∨ ∃ c : Nat, c < p ∧ Bl L n p s c ∧ ∃ j : Nat, j < n ∧ tw L j c o)
    rw [hln_bit hp hE ho p hp, hld_bit hp hE s o ho]
    constructor
    · intro q
      rcases q with q | ⟨c, q1, q2, q3⟩
      · exact Or.inl q
      · exact Or.inr ⟨c, q1, (hld_bit hp hE s c (by omega)).mp q2, q3⟩
    · intro q
      rcases q with q | ⟨c, q1, q2, q3⟩
      · exact Or.inl q
      · exact Or.inr ⟨c, q1, (hld_bit hp hE s c (by omega)).mpr q2, q3⟩
theorem tw_lt {L : Nat → Int32} {n p j a b : Nat} (hp : p ≤ 7) (hE : endsIn L n p) (hj : j < n) (h : tw L j a b) : a < p ∧ b < p := by
  obtain ⟨_, _, hA, hB⟩ := ends_at hE hp hj
  rcases h.2 with ⟨q1, q2⟩ | ⟨q1, q2⟩
  · omega
  · omega
theorem filter_le (f g : Nat → Bool) (h : ∀ x : Nat, f x = true → g x = true) : ∀ l : List Nat, (l.filter f).length ≤ (l.filter g).length
  | [] => Nat.le_refl _
  | x :: l => by
    have ih := filter_le f g h l
    by_cases e : f x = true
    · rw [List.filter_cons_of_pos e, List.filter_cons_of_pos (h x e)]
      exact Nat.succ_le_succ ih
    · rw [List.filter_cons_of_neg e]
      by_cases e2 : g x = true
      · rw [List.filter_cons_of_pos e2]
        exact Nat.le_succ_of_le ih
      · rw [List.filter_cons_of_neg e2]
        exact ih
theorem filter_lt (f g : Nat → Bool) (h : ∀ x : Nat, f x = true → g x = true) {y : Nat} (h1 : g y = true) (h2 : ¬ f y = true) : ∀ l : List Nat, y ∈ l → (l.filter f).length < (l.filter g).length
  | [], hy => absurd hy List.not_mem_nil
  | x :: l, hy => by
    by_cases e : f x = true
    · have hyl : y ∈ l := by
        rcases List.mem_cons.mp hy with q | q
        · subst q; exact absurd e h2
        · exact q
      rw [List.filter_cons_of_pos e, List.filter_cons_of_pos (h x e)]
      exact Nat.succ_lt_succ (filter_lt f g h h1 h2 l hyl)
    · rw [List.filter_cons_of_neg e]
      by_cases e2 : g x = true
      · rw [List.filter_cons_of_pos e2]
        exact Nat.lt_succ_of_le (filter_le f g h l)
      · rw [List.filter_cons_of_neg e2]
        have hyl : y ∈ l := by
          rcases List.mem_cons.mp hy with q | q
          · subst q; exact absurd h1 e2
          · exact q
        exact filter_lt f g h h1 h2 l hyl
def bcl (L : Nat → Int32) (n p s : Nat) : Prop := ∀ o : Nat, Bl L n p (s + 1) o → Bl L n p s o
theorem bcl_up {L : Nat → Int32} {n p s : Nat} (h : bcl L n p s) : ∀ d : Nat, bcl L n p (s + d)
  | 0 => h
  | d + 1 => fun o q => by
    have ih := bcl_up h d
    rcases q with q | ⟨c, q1, q2, q3⟩
    · exact q
    · exact Or.inr ⟨c, q1, ih c q2, q3⟩
theorem bl_closed {L : Nat → Int32} {n p : Nat} (hp : p ≤ 7) (hE : endsIn L n p) : bcl L n p (p - 1) := by
  by_cases h0 : p = 0
  · subst h0
    intro o q
    rcases q with q | ⟨c, q1, _⟩
    · exact q
    · exact absurd q1 (Nat.not_lt_zero c)
  · have key : ∀ s : Nat, (∃ t : Nat, t ≤ s ∧ bcl L n p t) ∨ s + 1 ≤ ((List.range p).filter fun o => bt (hld L n p s) o).length := by
      intro s
      induction s with
      | zero =>
        right
        have : 0 < ((List.range p).filter fun o => bt (hld L n p 0) o).length := by
          refine List.length_pos_of_mem (a := 0) (List.mem_filter.mpr ⟨List.mem_range.mpr (by omega), ?_⟩)
          show bt (1 : Int32) 0 = true
          decide
        omega
      | succ s ih =>
        rcases ih with ⟨t, h1, h2⟩ | ih
        · exact Or.inl ⟨t, by omega, h2⟩
        · by_cases hc : bcl L n p s
          · exact Or.inl ⟨s, by omega, hc⟩
          · right
            obtain ⟨o, ho⟩ := Classical.not_forall.mp (show ¬ ∀ o : Nat, Bl L n p (s + 1) o → Bl L n p s o from hc)
            obtain ⟨ho1, ho2⟩ := Classical.not_imp.mp ho
            have hlt : o < p := by
              rcases ho1 with q | ⟨c, q1, q2, j, q3, q4⟩
              · exact absurd q ho2
              · exact (tw_lt hp hE q3 q4).2
            have hlt2 := filter_lt (fun o => bt (hld L n p s) o) (fun o => bt (hld L n p (s + 1)) o) (fun x hx => by
              by_cases hx32 : x < 32
              · exact (hld_bit hp hE (s + 1) x hx32).mpr (Or.inl ((hld_bit hp hE s x hx32).mp hx))
              · rw [b_big (by omega)] at hx; cases hx) (y := o) ((hld_bit hp hE (s + 1) o (by omega)).mpr ho1) (fun q => ho2 ((hld_bit hp hE s o (by omega)).mp q)) (List.range p) (List.mem_range.mpr hlt)
            omega
    rcases key (p - 1) with ⟨t, h1, h2⟩ | h
    · have h3 := bcl_up h2 (p - 1 - t)
      rw [show t + (p - 1 - t) = p - 1 by omega] at h3
      exact h3
    · have hle := List.length_filter_le (fun o => bt (hld L n p (p - 1)) o) (List.range p)
      rw [List.length_range] at hle
      have hall := List.filter_eq_self.mp (List.filter_sublist.eq_of_length (show ((List.range p).filter fun o => bt (hld L n p (p - 1)) o).length = (List.range p).length by rw [List.length_range]; omega))
      intro o q
      rcases q with q | ⟨c, q1, q2, j, q3, q4⟩
      · exact q
      · have hlt := (tw_lt hp hE q3 q4).2
        exact (hld_bit hp hE (p - 1) o (by omega)).mp (hall o (List.mem_range.mpr hlt))
theorem bl_mono {L : Nat → Int32} {n p s o : Nat} (h : Bl L n p s o) : ∀ d : Nat, Bl L n p (s + d) o
  | 0 => h
  | d + 1 => Or.inl (bl_mono h d)
section
variable {L rA rB rO : Nat → Int32} {lc p i : Nat}
/-- the lines in the reference's rows -/
def LRW (L rA rB rO : Nat → Int32) (lc i : Nat) : Prop := ∀ j : Nat, j < lc → rA (12 * i + j) = L (j * 6) ∧ rB (12 * i + j) = L (j * 6 + 1) ∧ (rO (12 * i + j) = 0 ↔ b1 (L (j * 6 + 4)) = 0)
theorem ha_step {x : Int32} {j o : Nat} (hp : p ≤ 7) (hE : endsIn L lc p) (hr : LRW L rA rB rO lc i) (hj : j < lc) (ho : o < 32) : bt (L2_X12_holdsAlls rA rB rO i j x) o = true ↔ bt x o = true ∨ (b1 (L (j * 6 + 4)) = 0 ∧ (bt x (lnA L j) = true ∨ bt x (lnB L j) = true) ∧ (o = lnA L j ∨ o = lnB L j)) := by
  obtain ⟨r1, r2, r3⟩ := hr j hj
  obtain ⟨qa, qb, hA, hB⟩ := ends_at hE hp hj
  unfold L2_X12_holdsAlls
  rw [r1, r2, qa, qb]
  have hbit : bt ((x >>> (nI (lnA L j) &&& 31)) ||| (x >>> (nI (lnB L j) &&& 31))) 0 = true ↔ bt x (lnA L j) = true ∨ bt x (lnB L j) = true := by
    rw [b_or, b_sshr _ (by omega) x (by omega), b_sshr _ (by omega) x (by omega), if_pos (by omega), if_pos (by omega), Nat.add_zero, Nat.add_zero, Bool.or_eq_true]
  by_cases h1 : b1 (L (j * 6 + 4)) = 0
  · rw [if_pos (r3.mpr h1)]
    by_cases h2 : ((x >>> (nI (lnA L j) &&& 31)) ||| (x >>> (nI (lnB L j) &&& 31))) &&& (1 : Int32) = 0
    · rw [if_pos h2]
      refine ⟨Or.inl, fun q => q.elim id fun q => ?_⟩
      have h3 : bt ((((x >>> (nI (lnA L j) &&& 31)) ||| (x >>> (nI (lnB L j) &&& 31)))) &&& (1 : Int32)) 0 = true := by rw [b_and, hbit.mpr q.2.1, b_one 0 (by omega)]; rfl
      rw [h2, b_0] at h3
      cases h3
    · rw [if_neg h2, b_or, b_or, b_sh1 (by omega) ho, b_sh1 (by omega) ho, Bool.or_eq_true, Bool.or_eq_true, decide_eq_true_eq, decide_eq_true_eq]
      have h3 := hbit.mp (b_and1 h2)
      exact ⟨fun q => q.elim Or.inl fun q => Or.inr ⟨h1, h3, q⟩, fun q => q.elim Or.inl fun q => Or.inr q.2.2⟩
  · rw [if_neg (fun q => h1 (r3.mp q))]
    exact ⟨Or.inl, fun q => q.elim id fun q => absurd q.1 h1⟩
/-- a round over the lines keeps who is held, and holds those beside them -/
theorem ha_up {x : Int32} (hp : p ≤ 7) (hE : endsIn L lc p) (hr : LRW L rA rB rO lc i) : ∀ (m o : Nat), m ≤ lc → o < 32 → (bt x o = true ∨ ∃ c j : Nat, j < m ∧ bt x c = true ∧ tw L j c o) → bt (L2_X12_holdsAll rA rB rO i x m) o = true
  | 0, o, _, _, h => h.elim id fun ⟨c, j, q, _⟩ => absurd q (Nat.not_lt_zero j)
  | m + 1, o, hm, ho, h => by
    refine (ha_step hp hE hr (show m < lc by omega) ho).mpr ?_
    rcases h with h | ⟨c, j, q1, q2, q3⟩
    · exact Or.inl (ha_up hp hE hr m o (by omega) ho (Or.inl h))
    · by_cases e : j = m
      · subst e
        obtain ⟨_, _, hA, hB⟩ := ends_at hE hp (show j < lc by omega)
        rcases q3.2 with ⟨e1, e2⟩ | ⟨e1, e2⟩
        · exact Or.inr ⟨q3.1, Or.inl (ha_up hp hE hr j _ (by omega) (by omega) (Or.inl (by rw [e1]; exact q2))), Or.inr e2.symm⟩
        · exact Or.inr ⟨q3.1, Or.inr (ha_up hp hE hr j _ (by omega) (by omega) (Or.inl (by rw [e1]; exact q2))), Or.inl e2.symm⟩
      · exact Or.inl (ha_up hp hE hr m o (by omega) ho (Or.inr ⟨c, j, by omega, q2, q3⟩))
/-- and nobody outside of a set that is closed -/
theorem ha_in {x : Int32} {S : Nat → Prop} (hp : p ≤ 7) (hE : endsIn L lc p) (hr : LRW L rA rB rO lc i) (hS : ∀ j a b : Nat, j < lc → tw L j a b → S a → S b) (hx : ∀ o : Nat, o < 32 → bt x o = true → S o) : ∀ (m o : Nat), m ≤ lc → o < 32 → bt (L2_X12_holdsAll rA rB rO i x m) o = true → S o
  | 0, o, _, ho, h => hx o ho h
  | m + 1, o, hm, ho, h => by
    obtain ⟨_, _, hA, hB⟩ := ends_at hE hp (show m < lc by omega)
    rcases (ha_step hp hE hr (show m < lc by omega) ho).mp h with h | ⟨h1, h2, h3⟩
    · exact ha_in hp hE hr hS hx m o (by omega) ho h
    · have ih := fun o ho h => ha_in hp hE hr hS hx m o (by omega) ho h
      rcases h2 with h2 | h2
      · have sA := ih _ (by omega) h2
        rcases h3 with h3 | h3
        · rw [h3]; exact sA
        · rw [h3]; exact hS m _ _ (by omega) ⟨h1, Or.inl ⟨rfl, rfl⟩⟩ sA
      · have sB := ih _ (by omega) h2
        rcases h3 with h3 | h3
        · rw [h3]; exact hS m _ _ (by omega) ⟨h1, Or.inr ⟨rfl, rfl⟩⟩ sB
        · rw [h3]; exact sB
theorem ha_lo (hp : p ≤ 7) (hE : endsIn L lc p) (hr : LRW L rA rB rO lc i) : ∀ (r o : Nat), o < 32 → Bl L lc p r o → bt (L1_X12_holdsAll rA rB rO lc i 1 r) o = true
  | 0, o, ho, h => by
    show bt 1 o = true
    rw [b_one o ho, decide_eq_true_eq]
    exact h
  | r + 1, o, ho, h => by
    show bt (L2_X12_holdsAll rA rB rO i (L1_X12_holdsAll rA rB rO lc i 1 r) lc) o = true
    refine ha_up hp hE hr lc o (Nat.le_refl _) ho ?_
    rcases h with h | ⟨c, q1, q2, j, q3, q4⟩
    · exact Or.inl (ha_lo hp hE hr r o ho h)
    · exact Or.inr ⟨c, j, q3, ha_lo hp hE hr r c (by omega) q2, q4⟩
theorem ha_hi {S : Nat → Prop} (hp : p ≤ 7) (hE : endsIn L lc p) (hr : LRW L rA rB rO lc i) (hS : ∀ j a b : Nat, j < lc → tw L j a b → S a → S b) (h0 : S 0) : ∀ (r o : Nat), o < 32 → bt (L1_X12_holdsAll rA rB rO lc i 1 r) o = true → S o
  | 0, o, ho, h => by
    have h : bt 1 o = true := h
    rw [b_one o ho, decide_eq_true_eq] at h
    rw [h]; exact h0
  | r + 1, o, ho, h => ha_in hp hE hr hS (fun o ho h => ha_hi hp hE hr hS h0 r o ho h) lc o (Nat.le_refl _) ho h
/-- both sides hold the same -/
theorem holds_same (hp : p ≤ 7) (hE : endsIn L lc p) (hr : LRW L rA rB rO lc i) : L1_X12_holdsAll rA rB rO lc i 1 7 = hld L lc p (p - 1) := by
  have hcl := bl_closed hp hE
  have hS : ∀ j a b : Nat, j < lc → tw L j a b → Bl L lc p (p - 1) a → Bl L lc p (p - 1) b := fun j a b hj ht ha => hcl b (Or.inr ⟨a, (tw_lt hp hE hj ht).1, ha, j, hj, ht⟩)
  refine b_ext fun o ho => ?_
  have e : bt (L1_X12_holdsAll rA rB rO lc i 1 7) o = true ↔ bt (hld L lc p (p - 1)) o = true := by
    rw [hld_bit hp hE (p - 1) o ho]
    constructor
    · refine ha_hi hp hE hr hS ?_ 7 o ho
      have h0 := bl_mono (L := L) (n := lc) (p := p) (s := 0) (o := 0) rfl (p - 1)
      rw [Nat.zero_add] at h0
      exact h0
    · intro h
      have h1 := bl_mono h (7 - (p - 1))
      rw [show p - 1 + (7 - (p - 1)) = 7 by omega] at h1
      exact ha_lo hp hE hr 7 o ho h1
  cases h1 : bt (L1_X12_holdsAll rA rB rO lc i 1 7) o with
  | true => exact (e.mp h1).symm
  | false =>
    cases h2 : bt (hld L lc p (p - 1)) o with
    | true => rw [e.mpr h2] at h1; cases h1
    | false => rfl
end
theorem holdsAll_agree {F : Nat → Nat → Int32} {i : Nat} {w : VV} (ok : VOK w) (ho : OWB w) (hr : RP1 F i w) : F_X12_holdsAll (F 6) (F 12) (F 13) (F 17) w.lc i = holds w.L w.lc w.p := by
  have hl : LRW w.L (F 12) (F 13) (F 17) w.lc i := fun j hj => by
    obtain ⟨r12, r13, r14, r15, r16, r17⟩ := hr.2.2.2.2.1 j hj
    refine ⟨r12, r13, ?_⟩
    rw [r17]
    rcases ho j hj with q | q <;> rw [q] <;> decide
  unfold F_X12_holdsAll holds F_X12_everybody
  rw [holds_same ok.1 ok.2.2.1 hl, hr.1]
  rfl
theorem holds_pos {L : Nat → Int32} {n p : Nat} (h : ¬ holds L n p = 0) : 1 ≤ p := by
  by_cases e : p = 0
  · subst e
    exfalso
    refine h ?_
    unfold holds
    exact if_neg (show ¬ ((1 : Int32) = evy (nI 0)) by decide)
  · omega

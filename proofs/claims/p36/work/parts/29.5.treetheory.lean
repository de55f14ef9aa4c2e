/-! a tree of lines: the way down and up comes to an end, and never back -/
/-- the two-way lines so far -/
def ct2 (Lo : Nat → Int32) (v : Nat) : Nat → Nat
  | 0 => 0
  | i + 1 => if Lo (12 * v + i) = 0 then ct2 Lo v i + 1 else ct2 Lo v i
theorem ct2_s1 {Lo : Nat → Int32} {v i : Nat} (h : Lo (12 * v + i) = 0) : ct2 Lo v (i + 1) = ct2 Lo v i + 1 := by rw [ct2, if_pos h]
theorem ct2_s0 {Lo : Nat → Int32} {v i : Nat} (h : ¬ Lo (12 * v + i) = 0) : ct2 Lo v (i + 1) = ct2 Lo v i := by rw [ct2, if_neg h]
theorem ct2_le1 (Lo : Nat → Int32) (v i : Nat) : ct2 Lo v i ≤ ct2 Lo v (i + 1) := by
  rw [ct2]; split <;> omega
theorem ct2_le (Lo : Nat → Int32) (v i : Nat) : ct2 Lo v i ≤ i := by
  induction i with
  | zero => exact Nat.le_refl _
  | succ i ih => rw [ct2]; split <;> omega
theorem ct2_mono {Lo : Nat → Int32} {v i j : Nat} (h : i ≤ j) : ct2 Lo v i ≤ ct2 Lo v j := by
  induction h with
  | refl => exact Nat.le_refl _
  | step _ ih => exact Nat.le_trans ih (ct2_le1 Lo v _)
theorem ct2_lt {Lo : Nat → Int32} {v i j : Nat} (h : i < j) (h0 : Lo (12 * v + i) = 0) : ct2 Lo v i < ct2 Lo v j := by
  have h1 := ct2_s1 h0
  have h2 := ct2_mono (Lo := Lo) (v := v) (i := i + 1) (j := j) h
  omega
/-- unlike two-way lines are no more than there are -/
theorem ct2_inj {Lo : Nat → Int32} {v lc m : Nat} {f : Nat → Nat} (hf : ∀ i : Nat, i < m → f i < lc ∧ Lo (12 * v + f i) = 0) (hi : ∀ i j : Nat, i < j → j < m → f i ≠ f j) : m ≤ ct2 Lo v lc := by
  refine fb_holes (ct2 Lo v lc) m (fun i => ct2 Lo v (f i)) (fun i h => ct2_lt (hf i h).1 (hf i h).2) (fun i j h1 h2 e => ?_)
  have e : ct2 Lo v (f i) = ct2 Lo v (f j) := e
  rcases Nat.lt_trichotomy (f i) (f j) with q | q | q
  · have := ct2_lt q (hf i (by omega)).2; omega
  · exact hi i j h1 h2 q
  · have := ct2_lt q (hf j h2).2; omega
def endsOf (La Lb : Nat → Int32) (v l a b : Nat) : Prop := (La (12 * v + l) = nI a ∧ Lb (12 * v + l) = nI b) ∨ (La (12 * v + l) = nI b ∧ Lb (12 * v + l) = nI a)
/-- the people one by one, each by a line of its own to one ahead of it -/
def grw (La Lb Lo : Nat → Int32) (v lc n k : Nat) (x par fe : Nat → Nat) : Prop :=
  x 0 = 0 ∧ (∀ i : Nat, i ≤ k → x i < n) ∧ (∀ i j : Nat, i < j → j ≤ k → x i ≠ x j) ∧ par 0 = 0 ∧ ∀ i : Nat, 0 < i → i ≤ k → par i < i ∧ fe i < lc ∧ Lo (12 * v + fe i) = 0 ∧ endsOf La Lb v (fe i) (x i) (x (par i))
theorem grw_ex {La Lb Lo : Nat → Int32} {v lc n : Nat} (h1 : 1 ≤ n) (hn : n ≤ 7) (hR : ∀ S : Nat → Prop, rclo La Lb Lo v lc n S → ∀ o : Nat, o < n → S o) : ∀ k : Nat, k + 1 ≤ n → ∃ x par fe : Nat → Nat, grw La Lb Lo v lc n k x par fe
  | 0, _ => ⟨fun _ => 0, fun _ => 0, fun _ => 0, rfl, fun _ _ => h1, fun i j h1 h2 => by omega, rfl, fun i h1 h2 => by omega⟩
  | k + 1, hk => by
    obtain ⟨x, par, fe, g0, g1, g2, g3, g4⟩ := grw_ex h1 hn hR k (by omega)
    have hS : ¬ ∀ o : Nat, o < n → ∃ i : Nat, i ≤ k ∧ x i = o := fun h => by
      have h := fun o => fun ho => h o ho
      obtain ⟨f, hf⟩ : ∃ f : Nat → Nat, ∀ o : Nat, o < n → f o ≤ k ∧ x (f o) = o := ⟨fun o => if ho : o < n then (h o ho).choose else 0, fun o ho => by simp only [dif_pos ho]; exact (h o ho).choose_spec⟩
      have := fb_holes (k + 1) n f (fun o ho => by have := (hf o ho).1; omega) (fun i j hij hj e => by
        have e1 := (hf i (by omega)).2
        have e2 := (hf j hj).2
        rw [e] at e1
        omega)
      omega
    have hne : ∃ l a b : Nat, l < lc ∧ Lo (12 * v + l) = 0 ∧ endsOf La Lb v l a b ∧ a < n ∧ b < n ∧ (∃ i : Nat, i ≤ k ∧ x i = a) ∧ ¬ ∃ i : Nat, i ≤ k ∧ x i = b := Classical.byContradiction fun hc => by
      refine hS (hR (fun o => ∃ i : Nat, i ≤ k ∧ x i = o) ⟨⟨0, Nat.zero_le _, g0⟩, fun l hl a b hlo ea eb ha hb => ?_⟩)
      constructor
      · intro hA
        exact Classical.byContradiction fun hB => hc ⟨l, a, b, hl, hlo, Or.inl ⟨ea, eb⟩, ha, hb, hA, hB⟩
      · intro hB
        exact Classical.byContradiction fun hA => hc ⟨l, b, a, hl, hlo, Or.inr ⟨ea, eb⟩, hb, ha, hB, hA⟩
    obtain ⟨l, a, b, hl, hlo, hends, ha, hb, ⟨ia, hia, hxa⟩, hnb⟩ := hne
    refine ⟨fun i => if i = k + 1 then b else x i, fun i => if i = k + 1 then ia else par i, fun i => if i = k + 1 then l else fe i, ?_, ?_, ?_, ?_, ?_⟩
    · show (if 0 = k + 1 then b else x 0) = 0
      rw [if_neg (by omega)]; exact g0
    · intro i hi
      show (if i = k + 1 then b else x i) < n
      by_cases e : i = k + 1
      · rw [if_pos e]; exact hb
      · rw [if_neg e]; exact g1 i (by omega)
    · intro i j hij hj
      show (if i = k + 1 then b else x i) ≠ (if j = k + 1 then b else x j)
      rw [if_neg (by omega)]
      by_cases e : j = k + 1
      · rw [if_pos e]; exact fun q => hnb ⟨i, by omega, q⟩
      · rw [if_neg e]; exact g2 i j hij (by omega)
    · show (if 0 = k + 1 then ia else par 0) = 0
      rw [if_neg (by omega)]; exact g3
    · intro i h0 hi
      dsimp only
      by_cases e : i = k + 1
      · rw [if_pos e, if_pos e, if_pos e, if_neg (by omega)]
        refine ⟨by omega, hl, hlo, ?_⟩
        rw [hxa]
        exact hends.symm.imp (fun q => q) (fun q => q)
      · rw [if_neg e, if_neg e, if_neg e]
        obtain ⟨q1, q2, q3, q4⟩ := g4 i h0 (by omega)
        rw [if_neg (by omega)]
        exact ⟨q1, q2, q3, q4⟩
/-- who may call each other -/
def nbr (La Lb Lo : Nat → Int32) (v lc : Nat) (a b : Nat) : Prop := ∃ l : Nat, l < lc ∧ Lo (12 * v + l) = 0 ∧ endsOf La Lb v l a b
/-- a tree: each line is that of one to the one above it -/
def isT (nb : Nat → Nat → Prop) (n : Nat) (x par : Nat → Nat) : Prop := x 0 = 0 ∧ par 0 = 0 ∧ (∀ i : Nat, i < n → x i < n) ∧ (∀ i j : Nat, i < n → j < n → x i = x j → i = j) ∧ (∀ o : Nat, o < n → ∃ i : Nat, i < n ∧ x i = o) ∧ (∀ i : Nat, 0 < i → i < n → par i < i) ∧ ∀ a b : Nat, a < n → b < n → nb a b → ∃ i : Nat, 0 < i ∧ i < n ∧ ((a = x i ∧ b = x (par i)) ∨ (a = x (par i) ∧ b = x i))
theorem isT_ex {La Lb Lo : Nat → Int32} {v lc n : Nat} (h1 : 1 ≤ n) (hn : n ≤ 7) (hR : ∀ S : Nat → Prop, rclo La Lb Lo v lc n S → ∀ o : Nat, o < n → S o) (hct : ct2 Lo v lc + 1 = n) : ∃ x par : Nat → Nat, isT (nbr La Lb Lo v lc) n x par := by
  obtain ⟨x, par, fe, g0, g1, g2, g3, g4⟩ := grw_ex h1 hn hR (n - 1) (by omega)
  have inj : ∀ i j : Nat, i < n → j < n → x i = x j → i = j := fun i j hi hj e => by
    rcases Nat.lt_trichotomy i j with q | q | q
    · exact absurd e (g2 i j q (by omega))
    · exact q
    · exact absurd e.symm (g2 j i q (by omega))
  have nin : ∀ {a b : Nat}, a < n → b < n → nI a = nI b → a = b := fun ha hb e => (nI_eq (by omega) (by omega)).mp e
  have fin : ∀ i j : Nat, 0 < i → i < j → j < n → fe i ≠ fe j := fun i j h0 hij hj e => by
    obtain ⟨a1, a2, a3, a4⟩ := g4 i h0 (by omega)
    obtain ⟨b1, b2, b3, b4⟩ := g4 j (by omega) (by omega)
    rw [e] at a4
    have p1 : x (par i) < n := g1 _ (by omega)
    have p2 : x (par j) < n := g1 _ (by omega)
    have p3 : x i < n := g1 _ (by omega)
    have p4 : x j < n := g1 _ (by omega)
    have key : x j = x i ∨ x j = x (par i) := by
      rcases a4 with ⟨q1, q2⟩ | ⟨q1, q2⟩ <;> rcases b4 with ⟨r1, r2⟩ | ⟨r1, r2⟩
      · exact Or.inl (nin p4 p3 (r1.symm.trans q1))
      · exact Or.inr (nin p4 p1 (r2.symm.trans q2))
      · exact Or.inr (nin p4 p1 (r1.symm.trans q1))
      · exact Or.inl (nin p4 p3 (r2.symm.trans q2))
    rcases key with q | q
    · have := inj j i hj (by omega) q; omega
    · have := inj j (par i) hj (by omega) q; omega
  have sur : ∀ l : Nat, l < lc → Lo (12 * v + l) = 0 → ∃ i : Nat, 0 < i ∧ i < n ∧ fe i = l := fun l hl hlo => Classical.byContradiction fun hc => by
    have := ct2_inj (Lo := Lo) (v := v) (lc := lc) (m := n) (f := fun i => if i = 0 then l else fe i) (fun i hi => by
      by_cases e : i = 0
      · rw [if_pos e]; exact ⟨hl, hlo⟩
      · rw [if_neg e]; have := g4 i (by omega) (by omega); exact ⟨this.2.1, this.2.2.1⟩) (fun i j hij hj => by
      rw [if_neg (show ¬ j = 0 by omega)]
      by_cases e : i = 0
      · rw [if_pos e]; exact fun q => hc ⟨j, by omega, hj, q.symm⟩
      · rw [if_neg e]; exact fin i j (by omega) hij hj)
    omega
  refine ⟨x, par, g0, g3, fun i hi => g1 i (by omega), inj, fun o ho => ?_, fun i h0 hi => (g4 i h0 (by omega)).1, fun a b ha hb ⟨l, hl, hlo, he⟩ => ?_⟩
  · refine Classical.byContradiction fun hc => ?_
    have := fb_holes n (n + 1) (fun i => if i = n then o else x i) (fun i hi => by
      by_cases e : i = n
      · rw [if_pos e]; exact ho
      · rw [if_neg e]; exact g1 i (by omega)) (fun i j hij hj => by
      rw [if_neg (show ¬ i = n by omega)]
      by_cases e : j = n
      · rw [if_pos e]; exact fun q => hc ⟨i, by omega, q⟩
      · rw [if_neg e]; exact g2 i j hij (by omega))
    omega
  · obtain ⟨i, h0, hi, e⟩ := sur l hl hlo
    obtain ⟨a1, a2, a3, a4⟩ := g4 i h0 (by omega)
    rw [e] at a4
    have p1 : x (par i) < n := g1 _ (by omega)
    have p3 : x i < n := g1 _ (by omega)
    refine ⟨i, h0, hi, ?_⟩
    rcases he with ⟨q1, q2⟩ | ⟨q1, q2⟩ <;> rcases a4 with ⟨r1, r2⟩ | ⟨r1, r2⟩
    · exact Or.inl ⟨nin ha p3 (q1.symm.trans r1), nin hb p1 (q2.symm.trans r2)⟩
    · exact Or.inr ⟨nin ha p1 (q1.symm.trans r1), nin hb p3 (q2.symm.trans r2)⟩
    · exact Or.inr ⟨nin ha p1 (q2.symm.trans r2), nin hb p3 (q1.symm.trans r1)⟩
    · exact Or.inl ⟨nin ha p3 (q2.symm.trans r2), nin hb p1 (q1.symm.trans r1)⟩
def pit (par : Nat → Nat) : Nat → Nat → Nat
  | 0, k => k
  | t + 1, k => pit par t (par k)
/-- one stands below another -/
def Dsc (par : Nat → Nat) (j k : Nat) : Prop := ∃ t : Nat, pit par t k = j
theorem pit_add (par : Nat → Nat) : ∀ (s t k : Nat), pit par (s + t) k = pit par t (pit par s k)
  | 0, t, k => by rw [Nat.zero_add]; rfl
  | s + 1, t, k => by rw [show s + 1 + t = (s + t) + 1 by omega, pit, pit, pit_add par s t]
theorem pit_le {par : Nat → Nat} {n : Nat} (h0 : par 0 = 0) (hp : ∀ i : Nat, 0 < i → i < n → par i < i) : ∀ (t k : Nat), k < n → pit par t k ≤ k
  | 0, k, _ => Nat.le_refl _
  | t + 1, k, hk => by
    rw [pit]
    by_cases e : k = 0
    · subst e; rw [h0]; exact pit_le h0 hp t 0 hk
    · have h1 := hp k (by omega) hk
      have := pit_le h0 hp t (par k) (by omega)
      omega
/-- the way that layTree goes: where it is, whom it comes from, whose rows it may write -/
def TPl (nb : Nat → Nat → Prop) (pp : Nat) : Nat → Nat → Int32 → (Nat → Prop) → Prop
  | 0, _, _, _ => False
  | f + 1, on, ab, Wr => on ≤ 6 ∧ Wr on ∧ ∀ o : Nat, o < pp → ¬ nI o = ab → ¬ o = on → nb on o → ∃ Wr' : Nat → Prop, TPl nb pp f o (nI on) Wr' ∧ ¬ Wr' on ∧ ∀ y : Nat, Wr' y → Wr y
theorem TPl_down {nb : Nat → Nat → Prop} {n : Nat} {x par : Nat → Nat} (hn : n ≤ 7) (h : isT nb n x par) : ∀ (f i : Nat), 0 < i → i < n → n - i ≤ f → TPl nb n f (x i) (nI (x (par i))) (fun y => ∃ k : Nat, k < n ∧ y = x k ∧ Dsc par i k)
  | 0, i, h0, hi, hf => by omega
  | f + 1, i, h0, hi, hf => by
    obtain ⟨g0, g1, g2, g3, g4, g5, g6⟩ := h
    have hxi := g2 i hi
    refine ⟨by omega, ⟨i, hi, rfl, 0, rfl⟩, fun o ho hab hon hnb => ?_⟩
    obtain ⟨j, hj0, hj, he⟩ := g6 _ _ hxi ho hnb
    have hpj := g5 j hj0 hj
    rcases he with ⟨e1, e2⟩ | ⟨e1, e2⟩
    · have := g3 i j hi hj e1
      subst this
      exact absurd (by rw [e2]) hab
    · have hij := g3 i (par j) hi (by omega) e1
      refine ⟨fun y => ∃ k : Nat, k < n ∧ y = x k ∧ Dsc par j k, by rw [e2, e1]; exact TPl_down hn ⟨g0, g1, g2, g3, g4, g5, g6⟩ f j hj0 hj (by omega), fun ⟨k, hk, ek, t, et⟩ => ?_, fun y ⟨k, hk, ek, t, et⟩ => ⟨k, hk, ek, t + 1, ?_⟩⟩
      · have := g3 i k hi hk ek
        subst this
        have := pit_le g1 g5 t i hi
        omega
      · rw [pit_add par t 1 k, et, hij]; rfl
theorem TPl_up {nb : Nat → Nat → Prop} {n : Nat} {x par : Nat → Nat} (hn : n ≤ 7) (h : isT nb n x par) : ∀ (f i : Nat), i < n → i + n + 1 ≤ f → ∀ (ab : Int32) (Wr : Nat → Prop), ((ab = -1 ∧ Wr = fun _ => True) ∨ ∃ c : Nat, 0 < c ∧ c < n ∧ par c = i ∧ ab = nI (x c) ∧ Wr = fun y => ¬ ∃ k : Nat, k < n ∧ y = x k ∧ Dsc par c k) → TPl nb n f (x i) ab Wr
  | 0, i, hi, hf, _, _, _ => by omega
  | f + 1, i, hi, hf, ab, Wr, hW => by
    have h' := h
    obtain ⟨g0, g1, g2, g3, g4, g5, g6⟩ := h
    have hxi := g2 i hi
    have hnot : ∀ c : Nat, 0 < c → c < n → par c = i → ¬ ∃ k : Nat, k < n ∧ x i = x k ∧ Dsc par c k := fun c hc0 hc hpc ⟨k, hk, ek, t, et⟩ => by
      have := g3 i k hi hk ek
      subst this
      have h1 := pit_le g1 g5 t i hi
      have h2 := g5 c hc0 hc
      omega
    refine ⟨by omega, ?_, fun o ho hab hon hnb => ?_⟩
    · rcases hW with ⟨-, rfl⟩ | ⟨c, hc0, hc, hpc, -, rfl⟩
      · trivial
      · exact hnot c hc0 hc hpc
    · obtain ⟨j, hj0, hj, he⟩ := g6 _ _ hxi ho hnb
      have hpj := g5 j hj0 hj
      rcases he with ⟨e1, e2⟩ | ⟨e1, e2⟩
      · -- up
        have := g3 i j hi hj e1
        subst this
        refine ⟨fun y => ¬ ∃ k : Nat, k < n ∧ y = x k ∧ Dsc par i k, by rw [e2]; exact TPl_up hn h' f (par i) (by omega) (by omega) (nI (x i)) _ (Or.inr ⟨i, hj0, hi, rfl, rfl, rfl⟩), fun q => q ⟨i, hi, rfl, 0, rfl⟩, fun y hy => ?_⟩
        rcases hW with ⟨-, rfl⟩ | ⟨c, hc0, hc, hpc, -, rfl⟩
        · trivial
        · exact fun ⟨k, hk, ek, t, et⟩ => hy ⟨k, hk, ek, t + 1, by rw [pit_add par t 1 k, et]; exact hpc⟩
      · -- down
        have hij := g3 i (par j) hi (by omega) e1
        refine ⟨fun y => ∃ k : Nat, k < n ∧ y = x k ∧ Dsc par j k, by rw [e2, e1]; exact TPl_down hn h' f j hj0 hj (by omega), hnot j hj0 hj hij.symm, fun y ⟨k, hk, ek, t, et⟩ => ?_⟩
        rcases hW with ⟨-, rfl⟩ | ⟨c, hc0, hc, hpc, hab2, rfl⟩
        · trivial
        · rintro ⟨k', hk', ek', s, es⟩
          have := g3 k k' hk hk' (ek.symm.trans ek')
          subst this
          have hjc : j ≠ c := fun q => hab (by rw [e2, q, hab2])
          have hpc2 := g5 c hc0 hc
          rcases Nat.lt_trichotomy s t with q | q | q
          · have : j = pit par (t - s) c := by rw [← es, ← pit_add, show s + (t - s) = t by omega, et]
            rw [show t - s = (t - s - 1) + 1 by omega, pit, hpc] at this
            have h1 := pit_le g1 g5 (t - s - 1) i hi
            omega
          · subst q
            exact hjc (et.symm.trans es)
          · have : c = pit par (s - t) j := by rw [← et, ← pit_add, show t + (s - t) = s by omega, es]
            rw [show s - t = (s - t - 1) + 1 by omega, pit, ← hij] at this
            have h1 := pit_le g1 g5 (s - t - 1) i hi
            omega
theorem TPl_root {La Lb Lo : Nat → Int32} {v lc n fo : Nat} (h1 : 1 ≤ n) (hn : n ≤ 7) (hR : ∀ S : Nat → Prop, rclo La Lb Lo v lc n S → ∀ o : Nat, o < n → S o) (hct : ct2 Lo v lc + 1 = n) (hfo : fo < n) : TPl (nbr La Lb Lo v lc) n 14 fo (-1) (fun _ => True) := by
  obtain ⟨x, par, hT⟩ := isT_ex h1 hn hR hct
  obtain ⟨i, hi, e⟩ := hT.2.2.2.2.1 fo hfo
  rw [← e]
  exact TPl_up hn hT 14 i hi (by omega) (-1) _ (Or.inl ⟨rfl, rfl⟩)

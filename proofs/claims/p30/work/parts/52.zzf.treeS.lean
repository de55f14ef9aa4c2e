/-! the tree that the lines are, from any of the people on -/
theorem isT2_ex {La Lb Lo : Nat → Int32} {v lc n : Nat} (h1 : 1 ≤ n) (hn : n ≤ 7) (hR : ∀ S : Nat → Prop, rclo La Lb Lo v lc n S → ∀ o : Nat, o < n → S o) (hct : ct2 Lo v lc + 1 = n) : ∃ x par : Nat → Nat, isT (nbr La Lb Lo v lc) n x par ∧ ∀ i : Nat, 0 < i → i < n → nbr La Lb Lo v lc (x i) (x (par i)) := by
  obtain ⟨x, par, fe, g0, g1, g2, g3, g4⟩ := grw_ex h1 hn hR (n - 1) (by omega)
  have inj : ∀ i j : Nat, i < n → j < n → x i = x j → i = j := fun i j hi hj e => by
    rcases Nat.lt_trichotomy i j with q | q | q
    · exact absurd e (g2 i j q (by omega))
    · exact q
    · exact absurd e.symm (g2 j i q (by omega))
  have nin : ∀ {a b : Nat}, a < n → b < n → nI a = nI b → a = b := fun ha hb e => (nI_eq (by omega) (by omega)).mp e
  have fin : ∀ i j : Nat, 0 < i → i < j → j < n → fe i ≠ fe j := fun i j h0 hij hj e => by
    obtain ⟨a1, a2, a3, a4⟩ := g4 i h0 (by omega)
    obtain ⟨b1, b2, b3, b4⟩ := g4 j (by omega) (by omega)
    rw [e] at a4
    have p1 : x (par i) < n := g1 _ (by omega)
    have p2 : x (par j) < n := g1 _ (by omega)
    have p3 : x i < n := g1 _ (by omega)
    have p4 : x j < n := g1 _ (by omega)
    have key : x j = x i ∨ x j = x (par i) := by
      rcases a4 with ⟨q1, q2⟩ | ⟨q1, q2⟩ <;> rcases b4 with ⟨r1, r2⟩ | ⟨r1, r2⟩
      · exact Or.inl (nin p4 p3 (r1.symm.trans q1))
      · exact Or.inr (nin p4 p1 (r2.symm.trans q2))
      · exact Or.inr (nin p4 p1 (r1.symm.trans q1))
      · exact Or.inl (nin p4 p3 (r2.symm.trans q2))
    rcases key with q | q
    · have := inj j i hj (by omega) q; omega
    · have := inj j (par i) hj (by omega) q; omega
  have sur : ∀ l : Nat, l < lc → Lo (12 * v + l) = 0 → ∃ i : Nat, 0 < i ∧ i < n ∧ fe i = l := fun l hl hlo => Classical.byContradiction fun hc => by
    have := ct2_inj (Lo := Lo) (v := v) (lc := lc) (m := n) (f := fun i => if i = 0 then l else fe i) (fun i hi => by
      by_cases e : i = 0
      · rw [if_pos e]; exact ⟨hl, hlo⟩
      · rw [if_neg e]; have := g4 i (by omega) (by omega); exact ⟨this.2.1, this.2.2.1⟩) (fun i j hij hj => by
      rw [if_neg (show ¬ j = 0 by omega)]
      by_cases e : i = 0
      · rw [if_pos e]; exact fun q => hc ⟨j, by omega, hj, q.symm⟩
      · rw [if_neg e]; exact fin i j (by omega) hij hj)
    omega
  refine ⟨x, par, ⟨g0, g3, fun i hi => g1 i (by omega), inj, fun o ho => ?_, fun i h0 hi => (g4 i h0 (by omega)).1, fun a b ha hb ⟨l, hl, hlo, he⟩ => ?_⟩, fun i h0 hi => ⟨fe i, (g4 i h0 (by omega)).2.1, (g4 i h0 (by omega)).2.2.1, (g4 i h0 (by omega)).2.2.2⟩⟩
  · refine Classical.byContradiction fun hc => ?_
    have := fb_holes n (n + 1) (fun i => if i = n then o else x i) (fun i hi => by
      by_cases e : i = n
      · rw [if_pos e]; exact ho
      · rw [if_neg e]; exact g1 i (by omega)) (fun i j hij hj => by
      rw [if_neg (show ¬ i = n by omega)]
      by_cases e : j = n
      · rw [if_pos e]; exact fun q => hc ⟨i, by omega, q⟩
      · rw [if_neg e]; exact g2 i j hij (by omega))
    omega
  · obtain ⟨i, h0, hi, e⟩ := sur l hl hlo
    obtain ⟨a1, a2, a3, a4⟩ := g4 i h0 (by omega)
    rw [e] at a4
    have p1 : x (par i) < n := g1 _ (by omega)
    have p3 : x i < n := g1 _ (by omega)
    refine ⟨i, h0, hi, ?_⟩
    rcases he with ⟨q1, q2⟩ | ⟨q1, q2⟩ <;> rcases a4 with ⟨r1, r2⟩ | ⟨r1, r2⟩
    · exact Or.inl ⟨nin ha p3 (q1.symm.trans r1), nin hb p1 (q2.symm.trans r2)⟩
    · exact Or.inr ⟨nin ha p1 (q1.symm.trans r1), nin hb p3 (q2.symm.trans r2)⟩
    · exact Or.inr ⟨nin ha p1 (q2.symm.trans r2), nin hb p3 (q1.symm.trans r1)⟩
    · exact Or.inl ⟨nin ha p3 (q2.symm.trans r2), nin hb p1 (q1.symm.trans r1)⟩
theorem TRS.iff {nb : Nat → Nat → Prop} {p f on : Nat} {ab : Int32} {W W' : Nat → Prop} (hw : ∀ y : Nat, W y ↔ W' y) (h : TRS nb p f on ab W) : TRS nb p f on ab W' := by
  cases f with
  | zero => exact h.elim
  | succ f =>
    obtain ⟨h1, h2, S, h3, h4⟩ := h
    exact ⟨h1, (hw on).mp h2, S, fun o ho => ⟨(h3 o ho).1, (h3 o ho).2.1, fun y hy => (hw y).mp ((h3 o ho).2.2.1 y hy), (h3 o ho).2.2.2⟩, fun y hy => h4 y ((hw y).mpr hy)⟩
section
variable {nb : Nat → Nat → Prop} {n : Nat} {x par : Nat → Nat}
def DS (n : Nat) (x par : Nat → Nat) (i : Nat) : Nat → Prop := fun y => ∃ k : Nat, k < n ∧ x k = y ∧ Dsc par i k
def US (n : Nat) (x par : Nat → Nat) (i : Nat) : Nat → Prop := fun y => ∃ k : Nat, k < n ∧ x k = y ∧ ¬ Dsc par i k
theorem dsc_le (h : isT nb n x par) {i k : Nat} (hk : k < n) (d : Dsc par i k) : i ≤ k := by
  obtain ⟨t, e⟩ := d
  rw [← e]; exact pit_le h.2.1 h.2.2.2.2.2.1 t k hk
theorem dsc_up {i j k : Nat} (hj : par j = i) (d : Dsc par j k) : Dsc par i k := by
  obtain ⟨t, e⟩ := d
  exact ⟨t + 1, by rw [pit_add par t 1 k, e]; exact hj⟩
theorem dsc_me {i : Nat} : Dsc par i i := ⟨0, rfl⟩
theorem dsc_one (h : isT nb n x par) {i j j' k : Nat} (h0 : 0 < j) (h0' : 0 < j') (hj : j < n) (hj' : j' < n) (hk : k < n) (e : par j = i) (e' : par j' = i) (d : Dsc par j k) (d' : Dsc par j' k) : j = j' := by
  obtain ⟨t, et⟩ := d
  obtain ⟨s, es⟩ := d'
  have p1 := h.2.2.2.2.2.1 j h0 hj
  have p2 := h.2.2.2.2.2.1 j' h0' hj'
  rcases Nat.lt_trichotomy s t with q | q | q
  · have z : j = pit par (t - s) j' := by rw [← es, ← pit_add, show s + (t - s) = t by omega, et]
    rw [show t - s = (t - s - 1) + 1 by omega, pit, e'] at z
    have := pit_le h.2.1 h.2.2.2.2.2.1 (t - s - 1) i (by omega)
    omega
  · subst q
    exact et.symm.trans es
  · have z : j' = pit par (s - t) j := by rw [← et, ← pit_add, show t + (s - t) = s by omega, es]
    rw [show s - t = (s - t - 1) + 1 by omega, pit, e] at z
    have := pit_le h.2.1 h.2.2.2.2.2.1 (s - t - 1) i (by omega)
    omega
theorem dsc_dn (h : isT nb n x par) {i : Nat} : ∀ (t k : Nat), k < n → pit par t k = i → k = i ∨ ∃ j : Nat, 0 < j ∧ j < n ∧ par j = i ∧ Dsc par j k
  | 0, k, _, e => Or.inl e
  | t + 1, k, hk, e => by
    by_cases k0 : k = 0
    · subst k0
      rw [pit, h.2.1] at e
      exact dsc_dn h t 0 hk e
    · rw [pit] at e
      have hp := h.2.2.2.2.2.1 k (by omega) hk
      rcases dsc_dn h t (par k) (by omega) e with q | ⟨j, j0, j1, j2, d⟩
      · exact Or.inr ⟨k, by omega, hk, q, dsc_me⟩
      · obtain ⟨s, es⟩ := d
        exact Or.inr ⟨j, j0, j1, j2, s + 1, by rw [pit]; exact es⟩
theorem dsc_0 (h : isT nb n x par) : ∀ (f k : Nat), k < f → k < n → Dsc par 0 k
  | 0, _, q, _ => absurd q (Nat.not_lt_zero _)
  | f + 1, k, q, hk => by
    by_cases k0 : k = 0
    · subst k0; exact dsc_me
    · have hp := h.2.2.2.2.2.1 k (by omega) hk
      obtain ⟨t, e⟩ := dsc_0 h f (par k) (by omega) (by omega)
      exact ⟨t + 1, by rw [pit]; exact e⟩
/-- whom one is beside: the one above, or one below -/
theorem edge (h : isT nb n x par) {i o : Nat} (hi : i < n) (ho : o < n) (q : nb (x i) o) : (0 < i ∧ o = x (par i)) ∨ ∃ j : Nat, 0 < j ∧ j < n ∧ par j = i ∧ x j = o := by
  obtain ⟨j, j0, j1, e⟩ := h.2.2.2.2.2.2 _ _ (h.2.2.1 i hi) ho q
  have hp := h.2.2.2.2.2.1 j j0 j1
  rcases e with ⟨e1, e2⟩ | ⟨e1, e2⟩
  · have := h.2.2.2.1 i j hi j1 e1
    subst this
    exact Or.inl ⟨j0, e2⟩
  · exact Or.inr ⟨j, j0, j1, (h.2.2.2.1 i (par j) hi (by omega) e1).symm, e2.symm⟩
theorem TRS_dn (hn : n ≤ 7) (h : isT nb n x par) (he : ∀ i : Nat, 0 < i → i < n → nb (x i) (x (par i)) ∧ nb (x (par i)) (x i)) : ∀ (f i : Nat), 0 < i → i < n → n - i ≤ f → TRS nb n f (x i) (nI (x (par i))) (DS n x par i)
  | 0, i, h0, hi, hf => by omega
  | f + 1, i, h0, hi, hf => by
    have hx := h.2.2.1
    have hp := h.2.2.2.2.2.1 i h0 hi
    have cl : ∀ o : Nat, chd nb n (x i) (nI (x (par i))) o → ∃ j : Nat, 0 < j ∧ j < n ∧ par j = i ∧ x j = o := fun o ho => by
      rcases edge h hi ho.1 ho.2.2.2 with ⟨-, e⟩ | q
      · exact absurd (congrArg nI e) ho.2.1
      · exact q
    refine ⟨hx i hi, ⟨i, hi, rfl, dsc_me⟩, fun o y => ∃ j : Nat, 0 < j ∧ j < n ∧ par j = i ∧ x j = o ∧ DS n x par j y, fun o ho => ?_, fun y ⟨k, hk, ey, t, et⟩ => ?_⟩
    · obtain ⟨j, j0, j1, j2, j3⟩ := cl o ho
      have hj := h.2.2.2.2.2.1 j j0 j1
      have uq : ∀ j' : Nat, j' < n → x j' = o → j' = j := fun j' hj' e => h.2.2.2.1 j' j hj' j1 (e.trans j3.symm)
      refine ⟨?_, ?_, ?_, fun q hq hqo y => ?_⟩
      · have := TRS_dn hn h he f j j0 j1 (by omega)
        rw [j2, j3] at this
        exact TRS.iff (fun y => ⟨fun d => ⟨j, j0, j1, j2, j3, d⟩, fun ⟨j', _, g1, _, g3, d⟩ => by have := uq j' g1 g3; subst this; exact d⟩) this
      · rintro ⟨j', g0, g1, g2, g3, k, hk, ek, d⟩
        have := h.2.2.2.1 k i hk hi ek
        subst this
        have := dsc_le h hk d
        have := h.2.2.2.2.2.1 j' g0 g1
        omega
      · rintro y ⟨j', g0, g1, g2, g3, k, hk, ek, d⟩
        exact ⟨k, hk, ek, dsc_up g2 d⟩
      · rintro ⟨a, a0, a1, a2, a3, k, hk, ek, d⟩ ⟨b, b0, b1, b2, b3, k', hk', ek', d'⟩
        have := h.2.2.2.1 k k' hk hk' (ek.trans ek'.symm)
        subst this
        have := dsc_one h a0 b0 a1 b1 hk a2 b2 d d'
        subst this
        exact hqo (b3.symm.trans a3)
    · rcases dsc_dn h t k hk et with q | ⟨j, j0, j1, j2, d⟩
      · exact Or.inl (by rw [← ey, q])
      · have hj := h.2.2.2.2.2.1 j j0 j1
        refine Or.inr ⟨x j, ⟨hx j j1, fun q => ?_, fun q => ?_, ?_⟩, j, j0, j1, j2, rfl, k, hk, ey, d⟩
        · have := h.2.2.2.1 j (par i) j1 (by omega) ((nI_eq (a := x j) (b := x (par i)) (by have := hx j j1; omega) (by have := hx (par i) (by omega); omega)).mp q)
          omega
        · have := h.2.2.2.1 j i j1 hi q
          omega
        · have := (he j j0 j1).2
          rw [j2] at this; exact this
theorem TRS_up (hn : n ≤ 7) (h : isT nb n x par) (he : ∀ i : Nat, 0 < i → i < n → nb (x i) (x (par i)) ∧ nb (x (par i)) (x i)) : ∀ (f i : Nat), i < n → i + n + 1 ≤ f → ∀ (ab : Int32) (W : Nat → Prop), ((ab = -1 ∧ W = fun y => y < n) ∨ ∃ b : Nat, 0 < b ∧ b < n ∧ par b = i ∧ ab = nI (x b) ∧ W = US n x par b) → TRS nb n f (x i) ab W
  | 0, i, hi, hf, _, _, _ => by omega
  | f + 1, i, hi, hf, ab, W, hW => by
    have hx := h.2.2.1
    have hpar : ∀ j : Nat, 0 < j → j < n → par j < j := h.2.2.2.2.2.1
    -- what W holds, by places
    have wI : ∀ k : Nat, k < n → (W (x k) ↔ ∀ b : Nat, 0 < b → b < n → par b = i → ab = nI (x b) → ¬ Dsc par b k) := fun k hk => by
      rcases hW with ⟨ea, rfl⟩ | ⟨b, b0, b1, b2, ea, rfl⟩
      · exact ⟨fun _ b _ hb _ e => absurd (ea.symm.trans e) (m1_ne (by have := hx b hb; omega)), fun _ => hx k hk⟩
      · constructor
        · rintro ⟨k', hk', ek, d⟩ b' b0' b1' b2' e
          have := h.2.2.2.1 k' k hk' hk ek
          subst this
          have := h.2.2.2.1 b b' b1 b1' ((nI_eq (a := x b) (b := x b') (by have := hx b b1; omega) (by have := hx b' b1'; omega)).mp (ea.symm.trans e))
          subst this
          exact d
        · exact fun q => ⟨k, hk, rfl, q b b0 b1 b2 ea⟩
    have wS : ∀ y : Nat, W y → ∃ k : Nat, k < n ∧ x k = y := fun y hy => by
      rcases hW with ⟨-, rfl⟩ | ⟨b, _, _, _, _, rfl⟩
      · exact h.2.2.2.2.1 y hy
      · obtain ⟨k, hk, e, -⟩ := hy; exact ⟨k, hk, e⟩
    have abn : ∀ k : Nat, k < n → nI (x k) = ab → 0 < k ∧ par k = i := fun k hk e => by
      rcases hW with ⟨ea, -⟩ | ⟨b, b0, b1, b2, ea, -⟩
      · exact absurd (ea.symm.trans e.symm) (m1_ne (by have := hx k hk; omega))
      · have := h.2.2.2.1 k b hk b1 ((nI_eq (a := x k) (b := x b) (by have := hx k hk; omega) (by have := hx b b1; omega)).mp (e.trans ea))
        subst this
        exact ⟨b0, b2⟩
    have cl : ∀ o : Nat, chd nb n (x i) ab o → (0 < i ∧ o = x (par i)) ∨ ∃ j : Nat, 0 < j ∧ j < n ∧ par j = i ∧ x j = o := fun o ho => edge h hi ho.1 ho.2.2.2
    refine ⟨hx i hi, (wI i hi).mpr fun b b0 b1 b2 _ d => ?_, fun o y => (∃ j : Nat, 0 < j ∧ j < n ∧ par j = i ∧ x j = o ∧ DS n x par j y) ∨ (0 < i ∧ o = x (par i) ∧ US n x par i y), fun o ho => ?_, fun y hy => ?_⟩
    · have := dsc_le h hi d
      have := hpar b b0 b1
      omega
    · refine ⟨?_, ?_, ?_, fun q hq hqo y => ?_⟩
      · rcases cl o ho with ⟨i0, rfl⟩ | ⟨j, j0, j1, j2, j3⟩
        · have hpi := hpar i i0 hi
          refine TRS.iff (fun y => ⟨fun d => Or.inr ⟨i0, rfl, d⟩, fun d => ?_⟩) (TRS_up hn h he f (par i) (by omega) (by omega) (nI (x i)) (US n x par i) (Or.inr ⟨i, i0, hi, rfl, rfl, rfl⟩))
          rcases d with ⟨j, j0, j1, j2, j3, -⟩ | ⟨-, -, d⟩
          · have := h.2.2.2.1 j (par i) j1 (by omega) j3
            have := hpar j j0 j1
            omega
          · exact d
        · have hpj := hpar j j0 j1
          have := TRS_dn hn h he f j j0 j1 (by omega)
          rw [j2, j3] at this
          refine TRS.iff (fun y => ⟨fun d => Or.inl ⟨j, j0, j1, j2, j3, d⟩, fun d => ?_⟩) this
          rcases d with ⟨j', g0, g1, g2, g3, d⟩ | ⟨i0, e, -⟩
          · have := h.2.2.2.1 j' j g1 j1 (g3.trans j3.symm)
            subst this
            exact d
          · have hpi := hpar i i0 hi
            have := h.2.2.2.1 j (par i) j1 (by omega) (j3.trans e)
            omega
      · rintro (⟨j, g0, g1, g2, g3, k, hk, ek, d⟩ | ⟨i0, -, k, hk, ek, d⟩)
        · have := h.2.2.2.1 k i hk hi ek
          subst this
          have := dsc_le h hk d
          have := hpar j g0 g1
          omega
        · have := h.2.2.2.1 k i hk hi ek
          subst this
          exact d dsc_me
      · rintro y (⟨j, g0, g1, g2, g3, k, hk, ek, d⟩ | ⟨i0, e, k, hk, ek, d⟩)
        · rw [← ek]
          refine (wI k hk).mpr fun b b0 b1 b2 eb d2 => ?_
          have := dsc_one h g0 b0 g1 b1 hk g2 b2 d d2
          subst this
          exact ho.2.1 ((congrArg nI g3).symm.trans eb.symm)
        · rw [← ek]
          exact (wI k hk).mpr fun b b0 b1 b2 eb d2 => d (dsc_up b2 d2)
      · rintro (⟨a, a0, a1, a2, a3, k, hk, ek, d⟩ | ⟨i0, e, k, hk, ek, d⟩) (⟨b, b0, b1, b2, b3, k', hk', ek', d'⟩ | ⟨i0', e', k', hk', ek', d'⟩)
        · have := h.2.2.2.1 k k' hk hk' (ek.trans ek'.symm)
          subst this
          have := dsc_one h a0 b0 a1 b1 hk a2 b2 d d'
          subst this
          exact hqo (b3.symm.trans a3)
        · have := h.2.2.2.1 k k' hk hk' (ek.trans ek'.symm)
          subst this
          exact d' (dsc_up a2 d)
        · have := h.2.2.2.1 k k' hk hk' (ek.trans ek'.symm)
          subst this
          exact d (dsc_up b2 d')
        · exact hqo (e'.trans e.symm)
    · obtain ⟨k, hk, ek⟩ := wS y hy
      subst ek
      by_cases dk : Dsc par i k
      · obtain ⟨t, et⟩ := dk
        rcases dsc_dn h t k hk et with q | ⟨j, j0, j1, j2, d⟩
        · exact Or.inl (by rw [q])
        · have hpj := hpar j j0 j1
          refine Or.inr ⟨x j, ⟨hx j j1, fun q => ?_, fun q => ?_, ?_⟩, Or.inl ⟨j, j0, j1, j2, rfl, k, hk, rfl, d⟩⟩
          · exact (wI k hk).mp hy j j0 j1 j2 q.symm d
          · have := h.2.2.2.1 j i j1 hi q
            omega
          · have := (he j j0 j1).2
            rw [j2] at this; exact this
      · have i0 : 0 < i := Nat.pos_of_ne_zero fun q => by
          subst q
          exact dk (dsc_0 h (k + 1) k (by omega) hk)
        have hpi := hpar i i0 hi
        refine Or.inr ⟨x (par i), ⟨hx _ (by omega), fun q => ?_, fun q => ?_, (he i i0 hi).1⟩, Or.inr ⟨i0, rfl, k, hk, rfl, dk⟩⟩
        · obtain ⟨z0, z1⟩ := abn (par i) (by omega) q
          have := hpar (par i) z0 (by omega)
          omega
        · have := h.2.2.2.1 (par i) i (by omega) hi q
          omega
end
/-! whom one is beside, on both sides -/
section
variable {rA rB rO : Nat → Int32} {i lc p : Nat}
theorem jn_at {k : Nat} {a b : Int32} (h0 : rO k = 0) : ¬ F_X12_joins rA rB rO k a b = 0 ↔ (rA k = a ∧ rB k = b) ∨ (rA k = b ∧ rB k = a) := by
  have n10 : ¬ (1 : Int32) = 0 := by decide
  unfold F_X12_joins
  by_cases c1 : rA k = a
  · rw [if_pos c1]
    by_cases c2 : rB k = b
    · rw [if_pos c2]; exact ⟨fun _ => Or.inl ⟨c1, c2⟩, fun _ => n10⟩
    · rw [if_neg c2, if_pos h0]
      by_cases c3 : rA k = b
      · rw [if_pos c3]
        by_cases c4 : rB k = a
        · rw [if_pos c4]; exact ⟨fun _ => Or.inr ⟨c3, c4⟩, fun _ => n10⟩
        · rw [if_neg c4]; exact ⟨fun q => absurd rfl q, fun q => q.elim (fun q => absurd q.2 c2) (fun q => absurd q.2 c4)⟩
      · rw [if_neg c3]; exact ⟨fun q => absurd rfl q, fun q => q.elim (fun q => absurd q.2 c2) (fun q => absurd q.1 c3)⟩
  · rw [if_neg c1, if_pos h0]
    by_cases c3 : rA k = b
    · rw [if_pos c3]
      by_cases c4 : rB k = a
      · rw [if_pos c4]; exact ⟨fun _ => Or.inr ⟨c3, c4⟩, fun _ => n10⟩
      · rw [if_neg c4]; exact ⟨fun q => absurd rfl q, fun q => q.elim (fun q => absurd q.1 c1) (fun q => absurd q.2 c4)⟩
    · rw [if_neg c3]; exact ⟨fun q => absurd rfl q, fun q => q.elim (fun q => absurd q.1 c1) (fun q => absurd q.1 c3)⟩
theorem bs_at {a b : Nat} (hlc : lc ≤ 12) : ∀ m j : Nat, lc < m + j → j ≤ lc → (¬ L1_X12_isBeside rA rB rO i lc a b m j = 0 ↔ ∃ l : Nat, j ≤ l ∧ l < lc ∧ rO (12 * i + l) = 0 ∧ endsOf rA rB i l a b)
  | 0, j, h1, h2 => absurd h1 (by omega)
  | m + 1, j, h1, h2 => by
    rw [L1_X12_isBeside]
    by_cases c1 : nI lc ≤ nI j
    · have := (nI_leI (a := lc) (b := j) (by omega) (by omega)).mp c1
      rw [if_pos c1]
      exact ⟨fun q => absurd rfl q, fun ⟨l, q1, q2, _⟩ => by omega⟩
    · have hj : j < lc := Nat.lt_of_not_le fun q => c1 ((nI_leI (a := lc) (b := j) (by omega) (by omega)).mpr q)
      rw [if_neg c1]
      have ih := bs_at (a := a) (b := b) hlc m (j + 1) (by omega) (by omega)
      have ext : ¬ (rO (12 * i + j) = 0 ∧ endsOf rA rB i j a b) → ((∃ l : Nat, j + 1 ≤ l ∧ l < lc ∧ rO (12 * i + l) = 0 ∧ endsOf rA rB i l a b) ↔ ∃ l : Nat, j ≤ l ∧ l < lc ∧ rO (12 * i + l) = 0 ∧ endsOf rA rB i l a b) := fun hn =>
        ⟨fun ⟨l, q1, q2, q3, q4⟩ => ⟨l, by omega, q2, q3, q4⟩, fun ⟨l, q1, q2, q3, q4⟩ => by
          by_cases e : l = j
          · subst e; exact absurd ⟨q3, q4⟩ hn
          · exact ⟨l, by omega, q2, q3, q4⟩⟩
      by_cases c2 : rO (12 * i + j) = 0
      · rw [if_pos c2]
        by_cases c3 : F_X12_joins rA rB rO (12 * i + j) (nI a) (nI b) = 0
        · rw [if_pos c3, ih]
          exact ext fun q => (jn_at c2).mpr q.2 c3
        · rw [if_neg c3]
          exact ⟨fun _ => ⟨j, Nat.le_refl _, hj, c2, (jn_at c2).mp c3⟩, fun _ => by decide⟩
      · rw [if_neg c2, ih]
        exact ext fun q => c2 q.1
theorem nbf_eq (hlc : lc ≤ 12) : NBF rA rB rO i lc = nbr rA rB rO i lc := by
  funext a b
  refine propext ?_
  show ¬ L1_X12_isBeside rA rB rO i lc a b (lc + 1) 0 = 0 ↔ _
  rw [bs_at hlc (lc + 1) 0 (by omega) (Nat.zero_le _)]
  exact ⟨fun ⟨l, _, q2, q3, q4⟩ => ⟨l, q2, q3, q4⟩, fun ⟨l, q2, q3, q4⟩ => ⟨l, Nat.zero_le _, q2, q3, q4⟩⟩
theorem nbr_sy {a b : Nat} (h : nbr rA rB rO i lc a b) : nbr rA rB rO i lc b a := by
  obtain ⟨l, q1, q2, q3⟩ := h
  exact ⟨l, q1, q2, q3.symm⟩
theorem ct_at : ∀ k : Nat, L1_X12_isTree rO i 0 k = nI (ct2 rO i k)
  | 0 => rfl
  | k + 1 => by
    show L1_X12_isTrees rO i k (L1_X12_isTree rO i 0 k) = _
    rw [ct_at k]
    unfold L1_X12_isTrees
    by_cases c1 : rO (12 * i + k) = 0
    · rw [if_pos c1, ct2_s1 c1]; exact nI_add _ 1
    · rw [if_neg c1, ct2_s0 c1, Int32.add_zero]
theorem tw_ct {L : Nat → Int32} (hr : LRW L rA rB rO lc i) : ∀ k : Nat, k ≤ lc → L1_X10_twoWayLines L 0 k = nI (ct2 rO i k)
  | 0, _ => rfl
  | k + 1, hk => by
    show L1_X10_twoWayLiness L k (L1_X10_twoWayLines L 0 k) = _
    rw [tw_ct hr k (by omega)]
    have e := (hr k (by omega)).2.2
    unfold L1_X10_twoWayLiness
    by_cases c1 : rO (12 * i + k) = 0
    · rw [if_pos (e.mp c1), ct2_s1 c1]; exact nI_add _ 1
    · rw [if_neg (fun q => c1 (e.mpr q)), ct2_s0 c1]
theorem nb_bit {L : Nat → Int32} (hp : p ≤ 7) (hlc : lc ≤ 12) (hE : endsIn L lc p) (hr : LRW L rA rB rO lc i) : ∀ a : Nat, a < p → ∀ y : Nat, y < 32 → (bt (nbs L (nI a) lc) y = true ↔ y < p ∧ NBF rA rB rO i lc a y) := fun a ha y hy => by
  rw [nbs_bit hp (by omega) hy lc hE, nbf_eq hlc]
  constructor
  · rintro ⟨j, hj, ht⟩
    obtain ⟨e1, e2, e3, e4⟩ := ends_at hE hp hj
    obtain ⟨r1, r2, r3⟩ := hr j hj
    refine ⟨(tw_lt hp hE hj ht).2, j, hj, r3.mpr ht.1, ?_⟩
    unfold endsOf
    rw [r1, r2, e1, e2]
    rcases ht.2 with ⟨q1, q2⟩ | ⟨q1, q2⟩
    · exact Or.inl ⟨congrArg nI q1, congrArg nI q2⟩
    · exact Or.inr ⟨congrArg nI q2, congrArg nI q1⟩
  · rintro ⟨hyp, l, hl, h0, he⟩
    obtain ⟨e1, e2, e3, e4⟩ := ends_at hE hp hl
    obtain ⟨r1, r2, r3⟩ := hr l hl
    refine ⟨l, hl, r3.mp h0, ?_⟩
    unfold endsOf at he
    rw [r1, r2, e1, e2] at he
    have nin : ∀ {c d : Nat}, c < p → d < p → nI c = nI d → c = d := fun hc hd e => (nI_eq (by omega) (by omega)).mp e
    rcases he with ⟨q1, q2⟩ | ⟨q1, q2⟩
    · exact Or.inl ⟨nin e3 ha q1, nin e4 hyp q2⟩
    · exact Or.inr ⟨nin e4 ha q2, nin e3 hyp q1⟩
end
theorem lrw_of {F : Nat → Nat → Int32} {i : Nat} {w : VV} (ho : OWB w) (hr : RP1 F i w) : LRW w.L (F 12) (F 13) (F 17) w.lc i := fun j hj => by
  obtain ⟨r12, r13, r14, r15, r16, r17⟩ := hr.2.2.2.2.1 j hj
  refine ⟨r12, r13, ?_⟩
  rw [r17]
  rcases ho j hj with q | q <;> rw [q] <;> decide
section
variable {rP rA rB rO : Nat → Int32} {i : Nat} {w : VV}
/-- a tree on the one side is a tree on the other side -/
theorem it_eq (ok : VOK w) (hP : rP i = nI w.p) (hl : LRW w.L rA rB rO w.lc i) (h1 : 1 ≤ w.p) : (¬ F_X12_isTree rP rA rB rO i w.lc = 0) ↔ F_X10_twoWayLines w.lc w.L = nI (w.p - 1) ∧ ¬ holds w.L w.lc w.p = 0 := by
  have e1 : (rP i - 1 : Int32) = nI (w.p - 1) := by rw [hP]; exact nI_s1 h1
  have e2 : F_X10_twoWayLines w.lc w.L = L1_X12_isTree rO i 0 w.lc := by
    unfold F_X10_twoWayLines
    rw [tw_ct hl w.lc (Nat.le_refl _), ct_at]
  unfold F_X12_isTree
  have e3 : F_X12_holdsAll rP rA rB rO w.lc i = holds w.L w.lc w.p := by
    unfold F_X12_holdsAll holds F_X12_everybody
    rw [holds_same ok.1 ok.2.2.1 hl, hP]
    rfl
  rw [e1, e2, e3]
  by_cases c1 : L1_X12_isTree rO i 0 w.lc = nI (w.p - 1)
  · rw [if_pos c1]
    by_cases c2 : holds w.L w.lc w.p = 0
    · rw [if_pos c2]; exact ⟨fun q => absurd rfl q, fun q => absurd c2 q.2⟩
    · rw [if_neg c2]; exact ⟨fun _ => ⟨c1, c2⟩, fun _ => by decide⟩
  · rw [if_neg c1]; exact ⟨fun q => absurd rfl q, fun q => absurd q.1 c1⟩
theorem root_ts (ok : VOK w) (hP : rP i = nI w.p) (hl : LRW w.L rA rB rO w.lc i) (h1 : 1 ≤ w.p) (h : ¬ F_X12_isTree rP rA rB rO i w.lc = 0) {fo : Nat} (hfo : fo < w.p) : TRS (NBF rA rB rO i w.lc) w.p 14 fo (-1) (fun y => y < w.p) := by
  obtain ⟨ok1, ok2, ok3, -⟩ := id ok
  obtain ⟨q1, q2⟩ := (it_eq ok hP hl h1).mp h
  have hct : ct2 rO i w.lc + 1 = w.p := by
    have e : F_X10_twoWayLines w.lc w.L = nI (ct2 rO i w.lc) := tw_ct hl w.lc (Nat.le_refl _)
    have hle := ct2_le rO i w.lc
    have := (nI_eq (a := ct2 rO i w.lc) (b := w.p - 1) (by omega) (by omega)).mp (e.symm.trans q1)
    omega
  have hR : ∀ S : Nat → Prop, rclo rA rB rO i w.lc w.p S → ∀ o : Nat, o < w.p → S o := fun S hS o ho2 => by
    have e := holds_same ok1 ok3 hl
    have e2 : hld w.L w.lc w.p (w.p - 1) = evy (nI w.p) := by
      unfold holds at q2
      by_cases c1 : hld w.L w.lc w.p (w.p - 1) = evy (nI w.p)
      · exact c1
      · rw [if_neg c1] at q2; exact absurd rfl q2
    have hb : bt (L1_X12_holdsAll rA rB rO w.lc i 1 7) o = true := by
      rw [e, e2, b_evy w.p (by omega) o (by omega), decide_eq_true_eq]; exact ho2
    refine ha_hi ok1 ok3 hl (S := S) (fun j a b hj ht ha => ?_) hS.1 7 o (by omega) hb
    obtain ⟨e1, e2, e3, e4⟩ := ends_at ok3 ok1 hj
    obtain ⟨r1, r2, r3⟩ := hl j hj
    have hcl := hS.2 j hj (lnA w.L j) (lnB w.L j) (r3.mpr ht.1) (r1.trans e1) (r2.trans e2) e3 e4
    rcases ht.2 with ⟨g1, g2⟩ | ⟨g1, g2⟩
    · rw [← g2]; rw [← g1] at ha; exact hcl.mp ha
    · rw [← g2]; rw [← g1] at ha; exact hcl.mpr ha
  obtain ⟨x, par, hT, he⟩ := isT2_ex h1 ok1 hR hct
  obtain ⟨k, hk, ek⟩ := hT.2.2.2.2.1 fo hfo
  rw [nbf_eq ok2, ← ek]
  exact TRS_up ok1 hT (fun j j0 j1 => ⟨he j j0 j1, nbr_sy (he j j0 j1)⟩) 14 k hk (by omega) (-1) _ (Or.inl ⟨rfl, rfl⟩)
/-- what both sides answer -/
theorem tree_same (ok : VOK w) (hP : rP i = nI w.p) (hl : LRW w.L rA rB rO w.lc i) {y z t : Int32} {tm ch od B M T : Nat → Int32} (hy : ¬ F_X10_hasPerson (nI w.p) y = 0) (hz : ¬ F_X10_hasPerson (nI w.p) z = 0) : (F_X11_tree1 w.p w.lc w.L tm ch od y z t).1 = (if F_X12_isTree rP rA rB rO i w.lc = 0 then -1 else (if t = -1 then (LT rA rB rO i w.lc w.p 14 (tN y) (-1) B M T).2.2 (tN z) else (if F_X12_isIn t 0 ((LT rA rB rO i w.lc w.p 14 (tN y) (-1) B M T).2.1 (tN z) - 1) = 0 then -1 else (LT rA rB rO i w.lc w.p 14 (tN y) (-1) B M T).1 (7 * tN z + tN t)))) := by
  obtain ⟨ok1, ok2, ok3, -⟩ := id ok
  obtain ⟨y1, y2⟩ := hl_at (x := y) (n := w.p) (by omega) hy
  obtain ⟨z1, z2⟩ := hl_at (x := z) (n := w.p) (by omega) hz
  have h1 : 1 ≤ w.p := by omega
  have e := it_eq ok hP hl h1
  unfold F_X11_tree1
  rw [if_neg hy, if_neg hz]
  have neg : t < -1 → ¬ t = -1 ∧ ∀ P : Int32, F_X12_isIn t 0 P = 0 := fun h => by
    refine ⟨fun q => ?_, fun P => ?_⟩
    · rw [q] at h; exact absurd h (by decide)
    · unfold F_X12_isIn
      rw [if_pos (Int32.lt_of_lt_of_le h (by decide))]
  by_cases c0 : t < -1
  · rw [if_pos c0, if_neg (neg c0).1, (neg c0).2, if_pos rfl]
    split <;> rfl
  rw [if_neg c0]
  unfold F_X0_growTree
  by_cases c1 : F_X10_twoWayLines w.lc w.L = nI (w.p - 1)
  · by_cases c2 : holds w.L w.lc w.p = 0
    · have ht : F_X12_isTree rP rA rB rO i w.lc = 0 := Classical.byContradiction fun q => (e.mp q).2 c2
      rw [if_pos c1, if_pos c2, if_pos rfl, if_pos ht]
      all_goals rfl
    · have ht : ¬ F_X12_isTree rP rA rB rO i w.lc = 0 := e.mpr ⟨c1, c2⟩
      have hTS := root_ts ok hP hl h1 ht y2
      obtain ⟨tm', ch', od', g1, g2⟩ := gt_ok (tm := tm) (ch := ch) (od := od) ok1 (nb_bit ok1 ok2 ok3 hl) hTS
      obtain ⟨r1, -⟩ := LT_ok ok1 14 (by omega) (tN y) (-1) _ B M T hTS
      obtain ⟨k1, n, x, k2, k3, k4, k5⟩ := tz ok1 14 (by omega) (tN y) (-1) (tN z) r1 g2 (hTS.nd (tN z) z2)
      rw [if_pos c1, if_neg c2, g1]
      dsimp only
      rw [if_neg (show ¬ (1 : Int32) = 0 by decide), if_neg ht]
      by_cases c3 : t = -1
      · rw [if_pos c3, if_pos c3]; exact k1
      · rw [if_neg c3, if_neg c3, k3, per_eq (by omega)]
        show L1_X0_below tm' t (7 + 1) 0 (ch' (tN z)) = _
        rw [bl_ok (7 + 1) 0 _ _ k5 (by rw [crd_len]; omega) (by rw [crd_len]; omega)]
        have t0 : 0 ≤ t := by
          have a1 := Int32.not_lt.mp c0
          have a2 := Int32.le_iff_toInt_le.mp a1
          rw [show (-1 : Int32).toInt = -1 from by decide] at a2
          have a3 : ¬ t.toInt = -1 := fun q => c3 (Int32.toInt_inj.mp (q.trans (show (-1 : Int32).toInt = -1 from by decide).symm))
          exact Int32.le_iff_toInt_le.mpr (by rw [show (0 : Int32).toInt = 0 from by decide]; omega)
        obtain ⟨k, hk, rfl⟩ := nI_of (Int32.not_lt.mpr t0)
        have eb := blw_at (crd n x) 0 k (by omega) (by rw [crd_len]; omega)
        rw [Nat.zero_add] at eb
        rw [eb, crd_at, tN_nI (by omega)]
        unfold F_X10_hasPerson
        rw [if_neg (Int32.not_lt.mpr t0)]
        by_cases c4 : k < n
        · rw [if_pos c4, if_neg (show ¬ nI n ≤ nI k from fun q => by have := (nI_leI (a := n) (b := k) (by omega) (by omega)).mp q; omega), if_neg (show ¬ (1 : Int32) = 0 by decide)]
          exact (k4 k c4).1.symm
        · have c5 : nI n ≤ nI k := by
            rw [Int32.le_iff_toInt_le, nI_toInt (by omega), nI_toInt (by omega)]; omega
          rw [if_neg c4, if_pos c5, if_pos rfl]
  · have ht : F_X12_isTree rP rA rB rO i w.lc = 0 := Classical.byContradiction fun q => c1 (e.mp q).1
    rw [if_neg c1, if_pos rfl, if_pos ht]
    all_goals rfl
end
/-- what tree answers of a valley -/
abbrev zr0 : Nat → Int32 := fun _ => 0
def trA (w : VV) (y z t : Int32) : Int32 := (F_X11_tree1 w.p w.lc w.L zr0 zr0 zr0 y z t).1
theorem tr_cls {w : VV} {y z t : Int32} {tm ch od : Nat → Int32} (ok : VOK w) : (F_X11_tree1 w.p w.lc w.L tm ch od y z t).1 = trA w y z t := by
  by_cases hy : F_X10_hasPerson (nI w.p) y = 0
  · unfold trA F_X11_tree1; rw [if_pos hy, if_pos hy]
  · by_cases hz : F_X10_hasPerson (nI w.p) z = 0
    · unfold trA F_X11_tree1; rw [if_neg hy, if_neg hy, if_pos hz, if_pos hz]
    · have hl : LRW w.L (fun j => w.L (j * 6)) (fun j => w.L (j * 6 + 1)) (fun j => if b1 (w.L (j * 6 + 4)) = 0 then 0 else 1) w.lc 0 := fun j _ => by
        rw [show 12 * 0 + j = j by omega]
        refine ⟨rfl, rfl, ?_⟩
        show (if b1 (w.L (j * 6 + 4)) = 0 then (0 : Int32) else 1) = 0 ↔ b1 (w.L (j * 6 + 4)) = 0
        by_cases e : b1 (w.L (j * 6 + 4)) = 0
        · rw [if_pos e]; exact ⟨fun _ => e, fun _ => rfl⟩
        · rw [if_neg e]; exact ⟨fun q => absurd q (by decide), fun q => absurd q e⟩
      have hP : (fun _ : Nat => nI w.p) 0 = nI w.p := rfl
      unfold trA
      rw [tree_same (rP := fun _ => nI w.p) (i := 0) (tm := tm) (ch := ch) (od := od) (B := zr0) (M := zr0) (T := zr0) ok hP hl hy hz, tree_same (rP := fun _ => nI w.p) (i := 0) (tm := zr0) (ch := zr0) (od := zr0) (B := zr0) (M := zr0) (T := zr0) ok hP hl hy hz]
theorem tr_ref {nv : Nat} {V : Nat → VV} {F : Nat → Nat → Int32} {x y z t : Int32} {B M T : Nat → Int32} (hnv : nv ≤ 10) (h : RPW nv V F) (ho : ∀ i : Nat, i < nv → OWB (V i)) : (F_X12_tree nv (F 6) (F 7) (F 12) (F 13) (F 17) B M T x y z t).1 = vAns nv V x (-1) (fun w => trA w y z t) := by
  rcases vin_cases (n := nv) (by omega) x with hb | ⟨i, hi, rfl⟩
  · rw [vAns_no hb]
    unfold F_X12_tree
    rw [rv_no hb, if_pos rfl]
  · obtain ⟨ok, hr⟩ := h i hi
    have hp := ok.1
    have hlc := ok.2.1
    have ei : tN (nI i) = i := tN_nI (by omega)
    have eP : tN (F 6 i) = (V i).p := by rw [hr.1, tN_nI (by omega)]
    have eL : tN (F 7 i) = (V i).lc := by rw [hr.2.1, tN_nI (by omega)]
    rw [vAns_ok hnv hi]
    unfold F_X12_tree
    rw [if_neg (rv_yes hnv hi), ei, eP, eL]
    have ep : ∀ y : Int32, F_X12_isPerson (F 6) i y = F_X10_hasPerson (nI (V i).p) y := fun y => by
      unfold F_X12_isPerson
      rw [hr.1, per_eq (by omega)]
    rw [ep, ep]
    by_cases hy : F_X10_hasPerson (nI (V i).p) y = 0
    · rw [if_pos hy]; unfold trA F_X11_tree1; rw [if_pos hy]
    · by_cases hz : F_X10_hasPerson (nI (V i).p) z = 0
      · rw [if_neg hy, if_pos hz]; unfold trA F_X11_tree1; rw [if_neg hy, if_pos hz]
      · rw [if_neg hy, if_neg hz]
        unfold trA
        rw [tree_same (tm := zr0) (ch := zr0) (od := zr0) (B := B) (M := M) (T := T) ok hr.1 (lrw_of (ho i hi) hr) hy hz]
        split
        · rfl
        · split
          · rfl
          · split <;> rfl
theorem tr_root {nv : Nat} {V : Nat → VV} {F : Nat → Nat → Int32} {i : Nat} (h : RPW nv V F) (ho : ∀ i : Nat, i < nv → OWB (V i)) (hi : i < nv) (hT : ¬ F_X12_isTree (F 6) (F 12) (F 13) (F 17) i (tN (F 7 i)) = 0) : ∀ fo : Nat, fo < tN (F 6 i) → TPl (fun a b => ¬ F_X12_isBeside (F 12) (F 13) (F 17) i (tN (F 7 i)) a b = 0) (tN (F 6 i)) 14 fo (-1) (fun _ => True) := fun fo hfo => by
  obtain ⟨ok, hr⟩ := h i hi
  have hp := ok.1
  have hlc := ok.2.1
  have eP : tN (F 6 i) = (V i).p := by rw [hr.1, tN_nI (by omega)]
  have eL : tN (F 7 i) = (V i).lc := by rw [hr.2.1, tN_nI (by omega)]
  rw [eL] at hT ⊢
  rw [eP] at hfo ⊢
  have q := (root_ts ok hr.1 (lrw_of (ho i hi) hr) (by omega) hT hfo).pl hp
  exact ⟨q.1, trivial, fun o a b c_ d => by
    obtain ⟨W', w1, w2, w3⟩ := q.2.2 o a b c_ d
    exact ⟨W', w1, w2, fun _ _ => trivial⟩⟩

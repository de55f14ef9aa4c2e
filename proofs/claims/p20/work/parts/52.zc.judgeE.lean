theorem row_nn {g : GG} {Γ : Nat → Nat} {H : Heap} {q t n lo hi : Nat} {f : Nat → Int32} (hT : HT g TS0 Γ H) (hq : Γ q = t) (hA : AT g 1 n q f H) (ht : TS0.1 t = .inr (1, n, (0, .ofNat lo, .ofNat hi))) (h31 : t ≠ 0 ∧ hi < 2 ^ 31) : ∀ j : Nat, j < n → f j = nI (tN (f j)) ∧ tN (f j) ≤ hi := fun j hj => by
  obtain ⟨f', h1, h2⟩ := h_ints (Or.inr (Or.inl rfl)) hT (by rw [hq]; exact h31.1) ((congrArg TS0.1 hq).trans ht)
  have h3 := (AT_fun hA h1 hj).2
  obtain ⟨k, h4, -, h5⟩ := avi_nn (h2 j hj)
  rw [h3]
  obtain ⟨q1, q2⟩ := tN_of (k := k) (by have := h31.2; omega) h4
  exact ⟨q1, by rw [q2]; exact h5⟩

theorem plan_rows_ok {nv np : Nat} {V : Nat → VV} {P : Nat → PP} {F G : Nat → Nat → Int32} (hnv : nv ≤ 10) (hnp : np ≤ 12) (hV : RPW nv V F) (hZ : PLW nv V np P) (hG : RPP np P G) : (∀ j : Nat, j < np → G 21 j = nI (tN (G 21 j)) ∧ tN (G 21 j) < 10) ∧ (∀ j : Nat, j < np → G 22 j = nI (tN (G 22 j)) ∧ tN (G 22 j) ≤ 40) ∧ (∀ j : Nat, j < np → F 6 (tN (G 21 j)) = nI (tN (F 6 (tN (G 21 j)))) ∧ tN (F 6 (tN (G 21 j))) ≤ 7) ∧ (∀ j : Nat, j < np → F 7 (tN (G 21 j)) = nI (tN (F 7 (tN (G 21 j)))) ∧ tN (F 7 (tN (G 21 j))) ≤ 12) ∧ (∀ j : Nat, j < np → ∀ k : Nat, k < tN (G 22 j) → G 25 (40 * j + k) = nI (tN (G 25 (40 * j + k))) ∧ tN (G 25 (40 * j + k)) < 7) ∧ ∀ j : Nat, j < np → ∀ k : Nat, k < tN (G 22 j) → ¬ G 24 (40 * j + k) = 3 → G 26 (40 * j + k) = nI (tN (G 26 (40 * j + k))) ∧ tN (G 26 (40 * j + k)) < 7 := by
  have ev : ∀ j : Nat, j < np → tN (G 21 j) = (P j).v := fun j hj => by
    have := (hZ j hj).1
    rw [(hG j hj).1, tN_nI (by omega)]
  have ec : ∀ j : Nat, j < np → tN (G 22 j) = (P j).c := fun j hj => by
    have := (hZ j hj).2.1
    rw [(hG j hj).2.1, tN_nI (by omega)]
  refine ⟨fun j hj => ?_, fun j hj => ?_, fun j hj => ?_, fun j hj => ?_, fun j hj k hk => ?_, fun j hj k hk h3 => ?_⟩
  · have := (hZ j hj).1
    rw [ev j hj]
    exact ⟨(hG j hj).1, by omega⟩
  · rw [ec j hj]
    exact ⟨(hG j hj).2.1, (hZ j hj).2.1⟩
  · rw [ev j hj]
    exact hV.pe _ (hZ j hj).1
  · rw [ev j hj]
    exact hV.lc _ (hZ j hj).1
  · rw [ec j hj] at hk
    have hp := (hV _ (hZ j hj).1).1.1
    rw [((hG j hj).2.2 k hk).2.2.1]
    obtain ⟨a, b⟩ := hp_at (n := (V (P j).v).p) (by omega) ((hZ j hj).2.2.2 k hk).2.2.1
    exact ⟨a, by omega⟩
  · rw [ec j hj] at hk
    have hp := (hV _ (hZ j hj).1).1.1
    rw [((hG j hj).2.2 k hk).2.1] at h3
    rw [((hG j hj).2.2 k hk).2.2.2]
    obtain ⟨_, ⟨a, b⟩, _⟩ := hc_at (n := (V (P j).v).p) (by omega) (((hZ j hj).2.2.2 k hk).2.2.2 h3)
    exact ⟨a, by omega⟩

/-! when: the first hour of its kind -/
theorem dn_cong {f g k7 k7' : Nat → Int32} {p : Nat} {wo : Int32} (hp : p ≤ 7) (h : ∀ x : Nat, x < p → f x = g x) (h7 : ∀ x : Nat, x < p → k7 x = k7' x) : ∀ m j : Nat, j ≤ p → L1_X1_isDone f p k7 wo m j = L1_X1_isDone g p k7' wo m j
  | 0, _, _ => rfl
  | m + 1, j, hj => by
    rw [L1_X1_isDone, L1_X1_isDone]
    by_cases c : nI p ≤ nI j
    · rw [if_pos c, if_pos c]
    · have hl : j < p := Nat.not_le.mp fun q => c ((nI_leI (by omega) (by omega)).mpr q)
      rw [if_neg c, if_neg c, h j hl, h7 j hl, dn_cong hp h h7 m (j + 1) hl]
theorem mustOf_eq {rM mu : Nat → Int32} {v9 x : Nat} (hx : x < 32) (h : ∀ j : Nat, j < 4 → rM (4 * v9 + j) = mu j) : F_X12_mustOf rM v9 x = nwr mu x := by
  have e : ∀ m : Nat, L1_X12_mustOf rM v9 x 0 m = L7_X12_carry rM v9 x 0 m := fun m => by
    induction m with
    | zero => rfl
    | succ m ih =>
      show L1_X12_mustOfs rM v9 x m (L1_X12_mustOf rM v9 x 0 m) = L7_X12_carrys rM v9 x m (L7_X12_carry rM v9 x 0 m)
      rw [ih]; rfl
  unfold F_X12_mustOf nwr F_X10_newsOfOne
  rw [e, nwk_eq hx h 4 (Nat.le_refl _)]
theorem allKnow_eq {rM mu aF g : Nat → Int32} {v9 p ho : Nat} {wo : Int32} (hp : p ≤ 7) (hM : ∀ j : Nat, j < 4 → rM (4 * v9 + j) = mu j) (h : ∀ x : Nat, x < p → aF (7 * ho + x) = g x) : F_X12_allKnow rM aF v9 p ho wo = F_X1_isDone g p (nwr mu) wo := by
  have e : ∀ m j : Nat, j ≤ p → L1_X12_allKnow rM aF v9 p ho wo m j = L1_X1_isDone g p (nwr mu) wo m j := by
    intro m
    induction m with
    | zero => intro j _; rfl
    | succ m ih =>
      intro j hj
      rw [L1_X12_allKnow, L1_X1_isDone]
      by_cases c : nI p ≤ nI j
      · rw [if_pos c, if_pos c]
      · have hl : j < p := Nat.not_le.mp fun q => c ((nI_leI (by omega) (by omega)).mpr q)
        rw [if_neg c, if_neg c, mustOf_eq (by omega) hM, h j hl, ih (j + 1) hl]
  exact e _ 0 (Nat.zero_le _)

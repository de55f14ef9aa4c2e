/-! reach: whom one can come to, on both sides -/
/-- who takes part in a news -/
abbrev TPw (w : VV) (nw : Nat) : Int32 := evy (nI w.p) &&& (w.mn nw ^^^ (-1 : Int32))
abbrev prV (pe : Nat) (mn K : Nat → Int32) (nw j1 j2 : Nat) : Int32 := if hasv (evy (nI pe) &&& (mn nw ^^^ (-1 : Int32))) (nI j2) = 0 then 0 else F_X10_callable K j2 (j1 + 1) &&& (evy (nI pe) &&& (mn nw ^^^ (-1 : Int32)))
section
variable {pe nw : Nat} {mn K cA : Nat → Int32}
theorem prep_s {j1 j2 : Nat} {f : Nat → Int32} : L2_X7_prepares pe mn K nw j1 j2 f = upd f ((j1 + 1) * 7 + j2) (prV pe mn K nw j1 j2) := by
  unfold L2_X7_prepares prV
  by_cases h : hasv (evy (nI pe) &&& (mn nw ^^^ (-1 : Int32))) (nI j2) = 0
  · rw [if_pos h, if_pos h]
  · rw [if_neg h, if_neg h]
theorem prep_2 {j1 : Nat} {f : Nat → Int32} : ∀ m : Nat, m ≤ 7 → (∀ a : Nat, a < m → L2_X7_prepare pe mn K nw j1 f m ((j1 + 1) * 7 + a) = prV pe mn K nw j1 a) ∧ ∀ q : Nat, (q < (j1 + 1) * 7 ∨ (j1 + 1) * 7 + 7 ≤ q) → L2_X7_prepare pe mn K nw j1 f m q = f q
  | 0, _ => ⟨fun a ha => absurd ha (Nat.not_lt_zero _), fun _ _ => rfl⟩
  | m + 1, hm => by
    obtain ⟨i1, i2⟩ := prep_2 (j1 := j1) (f := f) m (by omega)
    have e : L2_X7_prepare pe mn K nw j1 f (m + 1) = upd (L2_X7_prepare pe mn K nw j1 f m) ((j1 + 1) * 7 + m) (prV pe mn K nw j1 m) := prep_s
    rw [e]
    refine ⟨fun a ha => ?_, fun q hq => ?_⟩
    · by_cases z : a = m
      · subst z; rw [upd_eq]
      · rw [upd_ne (by omega)]; exact i1 a (by omega)
    · rw [upd_ne (by omega)]; exact i2 q hq
theorem prep_1 (hpe : pe ≤ 7) : ∀ k : Nat, ∀ j1 a : Nat, j1 < k → a < pe → L1_X7_prepare pe mn K nw cA k ((j1 + 1) * 7 + a) = prV pe mn K nw j1 a
  | 0, j1, _, h, _ => absurd h (Nat.not_lt_zero _)
  | k + 1, j1, a, h, ha => by
    show L2_X7_prepare pe mn K nw k (L1_X7_prepare pe mn K nw cA k) pe ((j1 + 1) * 7 + a) = _
    obtain ⟨i1, i2⟩ := prep_2 (pe := pe) (mn := mn) (K := K) (nw := nw) (j1 := k) (f := L1_X7_prepare pe mn K nw cA k) pe hpe
    by_cases z : j1 = k
    · subst z; exact i1 a ha
    · rw [i2 _ (by omega)]
      exact prep_1 hpe k j1 a (by omega) ha
end
section
variable {w : VV} {nw h : Nat} {cA : Nat → Int32} {co : Int32}
/-- what the class lays ahead of its spreading -/
def PRP (w : VV) (nw : Nat) (cA : Nat → Int32) : Prop := ∀ h a : Nat, 1 ≤ h → h ≤ 24 → a < w.p → ∀ b : Nat, b < 32 → (bt (cA (h * 7 + a)) b = true ↔ bt (TPw w nw) a = true ∧ bt (kx w (h * 7 + a)) b = true ∧ bt (TPw w nw) b = true)
theorem prp_of {de : Int32} {mu : Nat → Int32} (ok : VOK w) : PRP w nw (F_X7_prepare cA w.p de mu w.mn (kx w) nw).2.2.2 := fun h a h1 h2 ha b hb => by
  have hp := ok.1
  have e : (F_X7_prepare cA w.p de mu w.mn (kx w) nw).2.2.2 (h * 7 + a) = prV w.p w.mn (kx w) nw (h - 1) a := by
    show L1_X7_prepare w.p w.mn (kx w) nw cA 24 (h * 7 + a) = _
    have q := prep_1 (pe := w.p) (mn := w.mn) (K := kx w) (nw := nw) (cA := cA) hp 24 (h - 1) a (by omega) ha
    rw [show (h - 1 + 1) * 7 + a = h * 7 + a by rw [Nat.sub_add_cancel h1]] at q
    exact q
  rw [e]
  unfold prV
  by_cases t : bt (TPw w nw) a = true
  · rw [if_neg ((bt_hasv (show a < 32 by omega)).mpr t), b_and, Bool.and_eq_true]
    show bt (kx w ((h - 1 + 1) * 7 + a)) b = true ∧ _ ↔ _
    rw [Nat.sub_add_cancel h1]
    exact ⟨fun q => ⟨t, q.1, q.2⟩, fun q => ⟨q.2.1, q.2.2⟩⟩
  · rw [if_pos ((hvb_0 (show a < 32 by omega)).mpr (by
      cases z : bt (TPw w nw) a with
      | false => rfl
      | true => exact absurd z t)), b_0]
    exact ⟨fun q => (by cases q), fun q => absurd q.1 t⟩
theorem come_bit {p : Nat} {b : Nat} (hb : b < 32) (hp : p ≤ 7) : ∀ m : Nat, m ≤ p → (bt (L1_X7_comeToAfter cA co h co m) b = true ↔ bt co b = true ∨ ∃ a : Nat, a < m ∧ bt co a = true ∧ bt (cA (h * 7 + a)) b = true)
  | 0, _ => ⟨Or.inl, fun q => q.elim id fun q => by obtain ⟨a, ha, _⟩ := q; exact absurd ha (Nat.not_lt_zero _)⟩
  | m + 1, hm => by
    have ih := come_bit hb hp m (by omega)
    show bt (L1_X7_comeToAfters cA co h m (L1_X7_comeToAfter cA co h co m)) b = true ↔ _
    unfold L1_X7_comeToAfters
    cases c : bt co m with
    | false =>
      rw [if_pos ((hvb_0 (show m < 32 by omega)).mpr c), ih]
      refine ⟨fun q => q.imp id fun ⟨a, x, y⟩ => ⟨a, by omega, y⟩, fun q => q.imp id fun ⟨a, x, y⟩ => ⟨a, ?_, y⟩⟩
      by_cases z : a = m
      · subst z; rw [c] at y; cases y.1
      · omega
    | true =>
      rw [if_neg ((bt_hasv (show m < 32 by omega)).mpr c), b_or, Bool.or_eq_true, ih]
      constructor
      · intro q
        rcases q with (q | ⟨a, x, y⟩) | q
        · exact Or.inl q
        · exact Or.inr ⟨a, by omega, y⟩
        · exact Or.inr ⟨m, Nat.lt_succ_self _, c, q⟩
      · intro q
        rcases q with q | ⟨a, x, y⟩
        · exact Or.inl (Or.inl q)
        · by_cases z : a = m
          · subst z; exact Or.inr y.2
          · exact Or.inl (Or.inr ⟨a, by omega, y⟩)
end
section
variable {F : Nat → Nat → Int32} {i h : Nat} {w : VV} {fr : Int32}
end
/-! the answer -/

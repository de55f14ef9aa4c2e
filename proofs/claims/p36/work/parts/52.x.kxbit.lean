/-! whom one may call in an hour: the class's row bit by bit, and the reference's look at the lines -/
theorem bt_hasv {x : Int32} {b : Nat} (hb : b < 32) : ¬ hasv x (nI b) = 0 ↔ bt x b = true := by
  have e : bt (x >>> (nI b &&& 31)) 0 = bt x b := by rw [b_sshr b hb x (by omega), if_pos (by omega), Nat.add_zero]
  unfold hasv
  by_cases h : ((x >>> (nI b &&& 31)) &&& 1) = 0
  · rw [if_pos h]
    refine ⟨fun q => absurd rfl q, fun q => ?_⟩
    have h1 : bt ((x >>> (nI b &&& 31)) &&& 1) 0 = true := by rw [b_and, e, q, b_one 0 (by omega)]; rfl
    rw [h, b_0] at h1
    cases h1
  · rw [if_neg h]
    exact ⟨fun _ => by rw [← e]; exact b_and1 h, fun _ => by decide⟩
/-- a line by which one may call another one in an hour -/
def jw (L : Nat → Int32) (j a b : Nat) (h : Int32) : Prop := ¬ F_X10_works L j h = 0 ∧ ((lnA L j = a ∧ lnB L j = b) ∨ (b1 (L (j * 6 + 4)) = 0 ∧ lnB L j = a ∧ lnA L j = b))
theorem b_upd {f : Nat → Int32} {k c q b : Nat} (hc : c < 32) (hb : b < 32) : bt (upd f k (f k ||| ((1 : Int32) <<< (nI c &&& 31))) q) b = (bt (f q) b || (decide (q = k) && decide (b = c))) := by
  by_cases e : q = k
  · subst e
    rw [upd_eq, b_or, b_sh1 hc hb]
    simp
  · rw [upd_ne e]
    simp [e]
theorem kx_2 {L : Nat → Int32} {f : Nat → Int32} {j a b h : Nat} (hA : lnA L j < 7) (hB : lnB L j < 7) (ha : a < 7) (hb : b < 32) (h1 : 1 ≤ h) : ∀ k : Nat, bt (L2_X10_lookAtLines L j f k (h * 7 + a)) b = true ↔ bt (f (h * 7 + a)) b = true ∨ (h ≤ k ∧ jw L j a b (nI h))
  | 0 => ⟨Or.inl, fun q => q.elim id fun q => absurd q.1 (by omega)⟩
  | k + 1 => by
    have ih := kx_2 (f := f) hA hB ha hb h1 k
    show bt (L2_X10_lookAtLiness L j k (L2_X10_lookAtLines L j f k) (h * 7 + a)) b = true ↔ _
    generalize L2_X10_lookAtLines L j f k = r at ih
    unfold L2_X10_lookAtLiness
    have e0 : ∀ c : Nat, c < 7 → (h * 7 + a = (k + 1) * 7 + c ↔ h = k + 1 ∧ a = c) := fun c hc => by omega
    by_cases hw : F_X10_works L j (nI (k + 1)) = 0
    · rw [if_pos hw, ih]
      constructor
      · intro q
        rcases q with q | ⟨q1, q2⟩
        · exact Or.inl q
        · exact Or.inr ⟨by omega, q2⟩
      · intro q
        rcases q with q | ⟨q1, q2⟩
        · exact Or.inl q
        · by_cases e : h = k + 1
          · subst e; exact absurd hw q2.1
          · exact Or.inr ⟨by omega, q2⟩
    · rw [if_neg hw]
      by_cases ho : b1 (L (j * 6 + 4)) = 0
      · rw [if_pos ho, b_upd (by omega) (by omega), b_upd (by omega) (by omega), Bool.or_eq_true, Bool.or_eq_true, Bool.and_eq_true, Bool.and_eq_true, decide_eq_true_eq, decide_eq_true_eq, decide_eq_true_eq, decide_eq_true_eq, ih, e0 _ hA, e0 _ hB]
        constructor
        · intro q
          rcases q with ((q | ⟨q1, q2⟩) | ⟨⟨q1, q2⟩, q3⟩) | ⟨⟨q1, q2⟩, q3⟩
          · exact Or.inl q
          · exact Or.inr ⟨by omega, q2⟩
          · subst q1; exact Or.inr ⟨Nat.le_refl _, hw, Or.inl ⟨q2.symm, q3.symm⟩⟩
          · subst q1; exact Or.inr ⟨Nat.le_refl _, hw, Or.inr ⟨ho, q2.symm, q3.symm⟩⟩
        · intro q
          rcases q with q | ⟨q1, q2⟩
          · exact Or.inl (Or.inl (Or.inl q))
          · by_cases e : h = k + 1
            · rcases q2.2 with ⟨q3, q4⟩ | ⟨_, q3, q4⟩
              · exact Or.inl (Or.inr ⟨⟨e, q3.symm⟩, q4.symm⟩)
              · exact Or.inr ⟨⟨e, q3.symm⟩, q4.symm⟩
            · exact Or.inl (Or.inl (Or.inr ⟨by omega, q2⟩))
      · rw [if_neg ho, b_upd (by omega) (by omega), Bool.or_eq_true, Bool.and_eq_true, decide_eq_true_eq, decide_eq_true_eq, ih, e0 _ hA]
        constructor
        · intro q
          rcases q with (q | ⟨q1, q2⟩) | ⟨⟨q1, q2⟩, q3⟩
          · exact Or.inl q
          · exact Or.inr ⟨by omega, q2⟩
          · subst q1; exact Or.inr ⟨Nat.le_refl _, hw, Or.inl ⟨q2.symm, q3.symm⟩⟩
        · intro q
          rcases q with q | ⟨q1, q2⟩
          · exact Or.inl (Or.inl q)
          · by_cases e : h = k + 1
            · rcases q2.2 with ⟨q3, q4⟩ | ⟨q0, _⟩
              · exact Or.inr ⟨⟨e, q3.symm⟩, q4.symm⟩
              · exact absurd q0 ho
            · exact Or.inl (Or.inr ⟨by omega, q2⟩)
theorem kx_1 {L : Nat → Int32} {a b h p : Nat} (ha : a < 7) (hb : b < 32) (h1 : 1 ≤ h) (h2 : h ≤ 24) (hp : p ≤ 7) : ∀ n : Nat, endsIn L n p → (bt (L1_X10_lookAtLines L (fun _ => 0) n (h * 7 + a)) b = true ↔ ∃ j : Nat, j < n ∧ jw L j a b (nI h))
  | 0, _ => by
    show bt 0 b = true ↔ _
    rw [b_0]
    exact ⟨fun q => (by cases q), fun ⟨j, q, _⟩ => absurd q (Nat.not_lt_zero j)⟩
  | n + 1, hE => by
    have ih := kx_1 (L := L) ha hb h1 h2 hp n (fun i hi => hE i (by omega))
    obtain ⟨_, _, qA, qB⟩ := ends_at hE hp (Nat.lt_succ_self n)
    show bt (L2_X10_lookAtLines L n (L1_X10_lookAtLines L (fun _ => 0) n) 24 (h * 7 + a)) b = true ↔ _
    rw [kx_2 (by omega) (by omega) ha hb h1 24, ih]
    constructor
    · intro q
      rcases q with ⟨j, q1, q2⟩ | ⟨_, q⟩
      · exact ⟨j, by omega, q2⟩
      · exact ⟨n, by omega, q⟩
    · intro q
      obtain ⟨j, q1, q2⟩ := q
      by_cases e : j = n
      · subst e; exact Or.inr ⟨h2, q2⟩
      · exact Or.inl ⟨j, by omega, q2⟩
/-- the class's row of whom one may call, bit by bit -/
theorem kx_bit {w : VV} {a b h : Nat} (ok : VOK w) (ha : a < 7) (hb : b < 32) (h1 : 1 ≤ h) (h2 : h ≤ 24) : bt (kx w (h * 7 + a)) b = true ↔ ∃ j : Nat, j < w.lc ∧ jw w.L j a b (nI h) := kx_1 ha hb h1 h2 ok.1 w.lc ok.2.2.1
theorem ite_joins (P Q R S T : Prop) [Decidable P] [Decidable Q] [Decidable R] [Decidable S] [Decidable T] : ¬ (if P then (if Q then (1 : Int32) else (if R then (if S then (if T then (1 : Int32) else 0) else 0) else 0)) else (if R then (if S then (if T then (1 : Int32) else 0) else 0) else 0)) = 0 ↔ (P ∧ Q) ∨ (R ∧ T ∧ S) := by
  have e10 : ¬ (1 : Int32) = 0 := by decide
  by_cases hP : P <;> by_cases hQ : Q <;> by_cases hR : R <;> by_cases hS : S <;> by_cases hT : T <;> simp [hP, hQ, hR, hS, hT, e10]
theorem joins_iff {rA rB rO : Nat → Int32} {k : Nat} {x y : Int32} : ¬ F_X12_joins rA rB rO k x y = 0 ↔ (rA k = x ∧ rB k = y) ∨ (rO k = 0 ∧ rB k = x ∧ rA k = y) := by
  unfold F_X12_joins
  exact ite_joins _ _ _ _ _
theorem works_agree {L rF rT rW : Nat → Int32} {k j : Nat} {h : Int32} (eF : rF k = L (j * 6 + 2)) (eT : rT k = L (j * 6 + 3)) (eW : rW k = L (j * 6 + 5)) : F_X12_works rF rT rW k h = F_X10_works L j h := by
  unfold F_X12_works F_X10_works F_X10_isOpen
  rw [eF, eT, eW]
  by_cases h1 : h < L (j * 6 + 2)
  · rw [if_pos h1, if_pos h1, if_pos rfl]
  · rw [if_neg h1, if_neg h1]
    by_cases h2 : L (j * 6 + 3) < h
    · rw [if_pos h2, if_pos h2, if_pos rfl]
    · rw [if_neg h2, if_neg h2, if_neg (show ¬ ((1 : Int32) = 0) by decide)]
theorem mc_1 {rA rB rF rT rW rO : Nat → Int32} {lc i a b : Nat} {h : Int32} (hlc : lc ≤ 12) : ∀ m j : Nat, lc + 1 ≤ m + j → j ≤ lc → (¬ L1_X12_mayCall rA rB rF rT rW rO lc i a b h m j = 0 ↔ ∃ k : Nat, j ≤ k ∧ k < lc ∧ ¬ F_X12_joins rA rB rO (12 * i + k) (nI a) (nI b) = 0 ∧ ¬ F_X12_works rF rT rW (12 * i + k) h = 0)
  | 0, j, h1, h2 => absurd h1 (by omega)
  | m + 1, j, h1, h2 => by
    rw [L1_X12_mayCall]
    by_cases e : j = lc
    · subst e
      rw [if_pos ((nI_leI (by omega) (by omega)).mpr (Nat.le_refl _))]
      exact ⟨fun q => absurd rfl q, fun ⟨k, q1, q2, _⟩ => absurd q1 (by omega)⟩
    · have ih := mc_1 (rA := rA) (rB := rB) (rF := rF) (rT := rT) (rW := rW) (rO := rO) (i := i) (a := a) (b := b) (h := h) hlc m (j + 1) (by omega) (by omega)
      rw [if_neg (fun q => absurd ((nI_leI (a := lc) (b := j) (by omega) (by omega)).mp q) (by omega))]
      have next : (∃ k : Nat, j + 1 ≤ k ∧ k < lc ∧ ¬ F_X12_joins rA rB rO (12 * i + k) (nI a) (nI b) = 0 ∧ ¬ F_X12_works rF rT rW (12 * i + k) h = 0) → ∃ k : Nat, j ≤ k ∧ k < lc ∧ ¬ F_X12_joins rA rB rO (12 * i + k) (nI a) (nI b) = 0 ∧ ¬ F_X12_works rF rT rW (12 * i + k) h = 0 := fun ⟨k, q1, q⟩ => ⟨k, by omega, q⟩
      by_cases c1 : F_X12_joins rA rB rO (12 * i + j) (nI a) (nI b) = 0
      · rw [if_pos c1, ih]
        refine ⟨next, fun ⟨k, q1, q2, q3, q4⟩ => ⟨k, ?_, q2, q3, q4⟩⟩
        by_cases e2 : k = j
        · subst e2; exact absurd c1 q3
        · omega
      · rw [if_neg c1]
        by_cases c2 : F_X12_works rF rT rW (12 * i + j) h = 0
        · rw [if_pos c2, ih]
          refine ⟨next, fun ⟨k, q1, q2, q3, q4⟩ => ⟨k, ?_, q2, q3, q4⟩⟩
          by_cases e2 : k = j
          · subst e2; exact absurd c2 q4
          · omega
        · rw [if_neg c2]
          exact ⟨fun _ => ⟨j, Nat.le_refl _, by omega, c1, c2⟩, fun _ => by decide⟩
/-- lines are one-way or not -/
def OWB (w : VV) : Prop := ∀ j : Nat, j < w.lc → w.L (j * 6 + 4) = 0 ∨ w.L (j * 6 + 4) = 1
theorem mc_agree {F : Nat → Nat → Int32} {i a b h : Nat} {w : VV} (ok : VOK w) (ho : OWB w) (hr : RP1 F i w) (ha : a < 7) (hb : b < 7) (h1 : 1 ≤ h) (h2 : h ≤ 24) : ¬ F_X12_mayCall (F 12) (F 13) (F 14) (F 15) (F 16) (F 17) w.lc i a b (nI h) = 0 ↔ bt (kx w (h * 7 + a)) b = true := by
  rw [kx_bit ok ha (by omega) h1 h2]
  unfold F_X12_mayCall
  rw [mc_1 ok.2.1 (w.lc + 1) 0 (by omega) (by omega)]
  have key : ∀ k : Nat, k < w.lc → ((¬ F_X12_joins (F 12) (F 13) (F 17) (12 * i + k) (nI a) (nI b) = 0 ∧ ¬ F_X12_works (F 14) (F 15) (F 16) (12 * i + k) (nI h) = 0) ↔ jw w.L k a b (nI h)) := fun k hk => by
    obtain ⟨r12, r13, r14, r15, r16, r17⟩ := hr.2.2.2.2.1 k hk
    obtain ⟨qa, qb, qA, qB⟩ := ends_at ok.2.2.1 ok.1 hk
    have hp := ok.1
    have nA : ∀ c : Nat, c < 7 → (nI (lnA w.L k) = nI c ↔ lnA w.L k = c) := fun c hc => nI_eq (by omega) (by omega)
    have nB : ∀ c : Nat, c < 7 → (nI (lnB w.L k) = nI c ↔ lnB w.L k = c) := fun c hc => nI_eq (by omega) (by omega)
    have n4 : b1 (w.L (k * 6 + 4)) = 0 ↔ w.L (k * 6 + 4) = 0 := by
      rcases ho k hk with q | q <;> rw [q] <;> decide
    rw [joins_iff, works_agree (L := w.L) (j := k) r14 r15 r16, r12, r13, r17, qa, qb, nA a ha, nA b hb, nB a ha, nB b hb]
    unfold jw
    rw [n4]
    exact and_comm
  constructor
  · intro q
    obtain ⟨k, _, q2, q3⟩ := q
    exact ⟨k, q2, (key k q2).mp q3⟩
  · intro q
    obtain ⟨k, q2, q3⟩ := q
    exact ⟨k, Nat.zero_le _, q2, (key k q2).mpr q3⟩

/-! reach: whom one can come to, on both sides -/
/-- who takes part in a news -/
abbrev TPw (w : VV) (nw : Nat) : Int32 := evy (nI w.p) &&& (w.mn nw ^^^ (-1 : Int32))
abbrev prV (pe : Nat) (mn K : Nat → Int32) (nw j1 j2 : Nat) : Int32 := if hasv (evy (nI pe) &&& (mn nw ^^^ (-1 : Int32))) (nI j2) = 0 then 0 else F_X10_callable K j2 (j1 + 1) &&& (evy (nI pe) &&& (mn nw ^^^ (-1 : Int32)))
section
variable {pe nw : Nat} {mn K cA : Nat → Int32}
theorem prep_s {j1 j2 : Nat} {f : Nat → Int32} : L2_X7_prepares pe mn K nw j1 j2 f = upd f ((j1 + 1) * 7 + j2) (prV pe mn K nw j1 j2) := by
  unfold L2_X7_prepares prV
  by_cases h : hasv (evy (nI pe) &&& (mn nw ^^^ (-1 : Int32))) (nI j2) = 0
  · rw [if_pos h, if_pos h]
  · rw [if_neg h, if_neg h]
theorem prep_2 {j1 : Nat} {f : Nat → Int32} : ∀ m : Nat, m ≤ 7 → (∀ a : Nat, a < m → L2_X7_prepare pe mn K nw j1 f m ((j1 + 1) * 7 + a) = prV pe mn K nw j1 a) ∧ ∀ q : Nat, (q < (j1 + 1) * 7 ∨ (j1 + 1) * 7 + 7 ≤ q) → L2_X7_prepare pe mn K nw j1 f m q = f q
  | 0, _ => ⟨fun a ha => absurd ha (Nat.not_lt_zero _), fun _ _ => rfl⟩
  | m + 1, hm => by
    obtain ⟨i1, i2⟩ := prep_2 (j1 := j1) (f := f) m (by omega)
    have e : L2_X7_prepare pe mn K nw j1 f (m + 1) = upd (L2_X7_prepare pe mn K nw j1 f m) ((j1 + 1) * 7 + m) (prV pe mn K nw j1 m) := prep_s
    rw [e]
    refine ⟨fun a ha => ?_, fun q hq => ?_⟩
    · by_cases z : a = m
      · subst z; rw [upd_eq]
      · rw [upd_ne (by omega)]; exact i1 a (by omega)
    · rw [upd_ne (by omega)]; exact i2 q hq
theorem prep_1 (hpe : pe ≤ 7) : ∀ k : Nat, ∀ j1 a : Nat, j1 < k → a < pe → L1_X7_prepare pe mn K nw cA k ((j1 + 1) * 7 + a) = prV pe mn K nw j1 a
  | 0, j1, _, h, _ => absurd h (Nat.not_lt_zero _)
  | k + 1, j1, a, h, ha => by
    show L2_X7_prepare pe mn K nw k (L1_X7_prepare pe mn K nw cA k) pe ((j1 + 1) * 7 + a) = _
    obtain ⟨i1, i2⟩ := prep_2 (pe := pe) (mn := mn) (K := K) (nw := nw) (j1 := k) (f := L1_X7_prepare pe mn K nw cA k) pe hpe
    by_cases z : j1 = k
    · subst z; exact i1 a ha
    · rw [i2 _ (by omega)]
      exact prep_1 hpe k j1 a (by omega) ha
end
section
variable {w : VV} {nw h : Nat} {cA : Nat → Int32} {co : Int32}
/-- what the class lays ahead of its spreading -/
def PRP (w : VV) (nw : Nat) (cA : Nat → Int32) : Prop := ∀ h a : Nat, 1 ≤ h → h ≤ 24 → a < w.p → ∀ b : Nat, b < 32 → (bt (cA (h * 7 + a)) b = true ↔ bt (TPw w nw) a = true ∧ bt (kx w (h * 7 + a)) b = true ∧ bt (TPw w nw) b = true)
theorem prp_of {de : Int32} {mu : Nat → Int32} (ok : VOK w) : PRP w nw (F_X7_prepare cA w.p de mu w.mn (kx w) nw).2.2.2 := fun h a h1 h2 ha b hb => by
  have hp := ok.1
  have e : (F_X7_prepare cA w.p de mu w.mn (kx w) nw).2.2.2 (h * 7 + a) = prV w.p w.mn (kx w) nw (h - 1) a := by
    show L1_X7_prepare w.p w.mn (kx w) nw cA 24 (h * 7 + a) = _
    have q := prep_1 (pe := w.p) (mn := w.mn) (K := kx w) (nw := nw) (cA := cA) hp 24 (h - 1) a (by omega) ha
    rw [show (h - 1 + 1) * 7 + a = h * 7 + a by rw [Nat.sub_add_cancel h1]] at q
    exact q
  rw [e]
  unfold prV
  by_cases t : bt (TPw w nw) a = true
  · rw [if_neg ((bt_hasv (show a < 32 by omega)).mpr t), b_and, Bool.and_eq_true]
    show bt (kx w ((h - 1 + 1) * 7 + a)) b = true ∧ _ ↔ _
    rw [Nat.sub_add_cancel h1]
    exact ⟨fun q => ⟨t, q.1, q.2⟩, fun q => ⟨q.2.1, q.2.2⟩⟩
  · rw [if_pos ((hvb_0 (show a < 32 by omega)).mpr (by
      cases z : bt (TPw w nw) a with
      | false => rfl
      | true => exact absurd z t)), b_0]
    exact ⟨fun q => (by cases q), fun q => absurd q.1 t⟩
theorem come_bit {p : Nat} {b : Nat} (hb : b < 32) (hp : p ≤ 7) : ∀ m : Nat, m ≤ p → (bt (L1_X7_comeToAfter cA co h co m) b = true ↔ bt co b = true ∨ ∃ a : Nat, a < m ∧ bt co a = true ∧ bt (cA (h * 7 + a)) b = true)
  | 0, _ => ⟨Or.inl, fun q => q.elim id fun q => by obtain ⟨a, ha, _⟩ := q; exact absurd ha (Nat.not_lt_zero _)⟩
  | m + 1, hm => by
    have ih := come_bit hb hp m (by omega)
    show bt (L1_X7_comeToAfters cA co h m (L1_X7_comeToAfter cA co h co m)) b = true ↔ _
    unfold L1_X7_comeToAfters
    cases c : bt co m with
    | false =>
      rw [if_pos ((hvb_0 (show m < 32 by omega)).mpr c), ih]
      refine ⟨fun q => q.imp id fun ⟨a, x, y⟩ => ⟨a, by omega, y⟩, fun q => q.imp id fun ⟨a, x, y⟩ => ⟨a, ?_, y⟩⟩
      by_cases z : a = m
      · subst z; rw [c] at y; cases y.1
      · omega
    | true =>
      rw [if_neg ((bt_hasv (show m < 32 by omega)).mpr c), b_or, Bool.or_eq_true, ih]
      constructor
      · intro q
        rcases q with (q | ⟨a, x, y⟩) | q
        · exact Or.inl q
        · exact Or.inr ⟨a, by omega, y⟩
        · exact Or.inr ⟨m, Nat.lt_succ_self _, c, q⟩
      · intro q
        rcases q with q | ⟨a, x, y⟩
        · exact Or.inl (Or.inl q)
        · by_cases z : a = m
          · subst z; exact Or.inr y.2
          · exact Or.inl (Or.inr ⟨a, by omega, y⟩)
end
section
variable {F : Nat → Nat → Int32} {i h : Nat} {w : VV} {fr : Int32}
/-- the reference's look at the lines, bit by bit -/
theorem spread_bit {ct : Int32} (ok : VOK w) (ow : OWB w) (hr : RP1 F i w) {b : Nat} (hb : b < 32) : ∀ m : Nat, m ≤ w.lc → (bt (L1_X12_spread (F 12) (F 13) (F 14) (F 15) (F 16) (F 17) i 0 (nI h) ct fr fr m) b = true ↔ bt fr b = true ∨ ∃ j : Nat, j < m ∧ ∃ a : Nat, a < 7 ∧ bt fr a = true ∧ jw w.L j a b (nI h))
  | 0, _ => ⟨Or.inl, fun q => q.elim id fun q => by obtain ⟨a, ha, _⟩ := q; exact absurd ha (Nat.not_lt_zero _)⟩
  | m + 1, hm => by
    have ih := spread_bit (ct := ct) ok ow hr hb m (by omega)
    have hlc := ok.2.1
    have hp := ok.1
    obtain ⟨eA, eB, lA7, lB7⟩ := ends_at ok.2.2.1 hp (show m < w.lc by omega)
    obtain ⟨f12, f13, f14, f15, f16, f17⟩ := hr.2.2.2.2.1 m (by omega)
    have hw := works_agree (h := nI h) f14 f15 f16
    have z0 : ¬ ((0 : Int32) >>> (nI m &&& 31)) &&& 1 = 1 := fun q => by
      have := (shr_b1 (show m < 32 by omega)).mp q
      rw [b_0] at this
      cases this
    show bt (L1_X12_spreads (F 12) (F 13) (F 14) (F 15) (F 16) (F 17) i 0 (nI h) ct fr m (L1_X12_spread (F 12) (F 13) (F 14) (F 15) (F 16) (F 17) i 0 (nI h) ct fr fr m)) b = true ↔ _
    generalize L1_X12_spread (F 12) (F 13) (F 14) (F 15) (F 16) (F 17) i 0 (nI h) ct fr fr m = s at ih ⊢
    have stay : (∀ a : Nat, a < 7 → bt fr a = true → ¬ jw w.L m a b (nI h)) → (bt s b = true ↔ bt fr b = true ∨ ∃ j : Nat, j < m + 1 ∧ ∃ a : Nat, a < 7 ∧ bt fr a = true ∧ jw w.L j a b (nI h)) := fun hn => by
      rw [ih]
      refine ⟨fun q => q.imp id fun ⟨j, x, y⟩ => ⟨j, by omega, y⟩, fun q => q.imp id fun ⟨j, x, a, y1, y2, y3⟩ => ⟨j, ?_, a, y1, y2, y3⟩⟩
      by_cases z : j = m
      · subst z; exact absurd y3 (hn a y1 y2)
      · omega
    unfold L1_X12_spreads
    rw [hw, f12, f13, f17, eA, eB]
    by_cases c1 : F_X10_works w.L m (nI h) = 0
    · rw [if_pos c1]
      exact stay fun a _ _ q => q.1 c1
    · rw [if_neg c1, if_neg z0]
      have one : ∀ x y : Prop, (x → y) → (y → x) → (x ↔ y) := fun x y a b => ⟨a, b⟩
      -- what the line adds
      have go : ∀ S : Int32, (bt S b = true ↔ bt s b = true ∨ (bt fr (lnA w.L m) = true ∧ b = lnB w.L m) ∨ (w.L (m * 6 + 4) = 0 ∧ bt fr (lnB w.L m) = true ∧ b = lnA w.L m)) → (bt S b = true ↔ bt fr b = true ∨ ∃ j : Nat, j < m + 1 ∧ ∃ a : Nat, a < 7 ∧ bt fr a = true ∧ jw w.L j a b (nI h)) := fun S hS => by
        rw [hS, ih]
        have hone : b1 (w.L (m * 6 + 4)) = 0 ↔ w.L (m * 6 + 4) = 0 := by
          rcases ow m (by omega) with q | q
          · rw [q]; exact ⟨fun _ => rfl, fun _ => rfl⟩
          · rw [q]; exact ⟨fun z => absurd z (by decide), fun z => absurd z (by decide)⟩
        constructor
        · intro q
          rcases q with (q | ⟨j, x, y⟩) | ⟨q1, q2⟩ | ⟨q1, q2, q3⟩
          · exact Or.inl q
          · exact Or.inr ⟨j, by omega, y⟩
          · exact Or.inr ⟨m, Nat.lt_succ_self _, lnA w.L m, by omega, q1, c1, Or.inl ⟨rfl, q2.symm⟩⟩
          · exact Or.inr ⟨m, Nat.lt_succ_self _, lnB w.L m, by omega, q2, c1, Or.inr ⟨hone.mpr q1, rfl, q3.symm⟩⟩
        · intro q
          rcases q with q | ⟨j, x, a, y1, y2, y3⟩
          · exact Or.inl (Or.inl q)
          · by_cases z : j = m
            · subst z
              rcases y3.2 with ⟨z1, z2⟩ | ⟨z0, z1, z2⟩
              · exact Or.inr (Or.inl ⟨by rw [z1]; exact y2, z2.symm⟩)
              · exact Or.inr (Or.inr ⟨hone.mp z0, by rw [z1]; exact y2, z2.symm⟩)
            · exact Or.inl (Or.inr ⟨j, by omega, a, y1, y2, y3⟩)
      have sA := shr_b1 (x := fr) (b := lnA w.L m) (by omega)
      have sB := shr_b1 (x := fr) (b := lnB w.L m) (by omega)
      by_cases c2 : (fr >>> (nI (lnA w.L m) &&& 31)) &&& 1 = 1
      · rw [if_pos c2]
        by_cases c3 : w.L (m * 6 + 4) = 0
        · rw [if_pos c3]
          by_cases c4 : (fr >>> (nI (lnB w.L m) &&& 31)) &&& 1 = 1
          · rw [if_pos c4]
            refine go _ ?_
            rw [b_orsh (by omega) hb, b_orsh (by omega) hb, or_assoc]
            exact ⟨fun q => q.imp id fun q => q.imp (fun q => ⟨sA.mp c2, q⟩) fun q => ⟨c3, sB.mp c4, q⟩, fun q => q.imp id fun q => q.imp (fun q => q.2) fun q => q.2.2⟩
          · rw [if_neg c4]
            refine go _ ?_
            rw [b_orsh (by omega) hb]
            exact ⟨fun q => q.imp id fun q => Or.inl ⟨sA.mp c2, q⟩, fun q => q.imp id fun q => q.elim (fun q => q.2) fun q => absurd (sB.mpr q.2.1) c4⟩
        · rw [if_neg c3]
          refine go _ ?_
          rw [b_orsh (by omega) hb]
          exact ⟨fun q => q.imp id fun q => Or.inl ⟨sA.mp c2, q⟩, fun q => q.imp id fun q => q.elim (fun q => q.2) fun q => absurd q.1 c3⟩
      · rw [if_neg c2]
        by_cases c3 : w.L (m * 6 + 4) = 0
        · rw [if_pos c3]
          by_cases c4 : (fr >>> (nI (lnB w.L m) &&& 31)) &&& 1 = 1
          · rw [if_pos c4]
            refine go _ ?_
            rw [b_orsh (by omega) hb]
            exact ⟨fun q => q.imp id fun q => Or.inr ⟨c3, sB.mp c4, q⟩, fun q => q.imp id fun q => q.elim (fun q => absurd (sA.mpr q.1) c2) fun q => q.2.2⟩
          · rw [if_neg c4]
            refine go _ ?_
            exact ⟨Or.inl, fun q => q.elim id fun q => q.elim (fun q => absurd (sA.mpr q.1) c2) fun q => absurd (sB.mpr q.2.1) c4⟩
        · rw [if_neg c3]
          refine go _ ?_
          exact ⟨Or.inl, fun q => q.elim id fun q => q.elim (fun q => absurd (sA.mpr q.1) c2) fun q => absurd q.1 c3⟩
/-- one hour: the same on both sides -/
theorem step_reach {nw : Nat} {cA : Nat → Int32} {co ct : Int32} (ok : VOK w) (ow : OWB w) (nl : NLP w) (hr : RP1 F i w) (hP : PRP w nw cA) (h1 : 1 ≤ h) (h2 : h ≤ 24) (hc : ∀ b : Nat, b < 32 → bt co b = true → bt (TPw w nw) b = true) : F_X7_comeToAfter w.p cA co h = F_X12_spread (F 12) (F 13) (F 14) (F 15) (F 16) (F 17) i w.lc 0 (nI h) ct co (w.mn nw) ∧ ∀ b : Nat, b < 32 → bt (F_X7_comeToAfter w.p cA co h) b = true → bt (TPw w nw) b = true := by
  have hp := ok.1
  have tp : ∀ b : Nat, b < 32 → (bt (TPw w nw) b = true ↔ b < w.p ∧ bt (w.mn nw) b = false) := fun b hb => by
    rw [b_and, b_nt _ hb, b_evy w.p (by omega) b hb, Bool.and_eq_true, decide_eq_true_eq]
    cases bt (w.mn nw) b <;> simp
  have key : ∀ b : Nat, b < 32 → (bt (F_X7_comeToAfter w.p cA co h) b = true ↔ bt co b = true ∨ ((∃ a : Nat, a < 7 ∧ bt co a = true ∧ bt (kx w (h * 7 + a)) b = true) ∧ bt (TPw w nw) b = true)) := fun b hb => by
    show bt (L1_X7_comeToAfter cA co h co w.p) b = true ↔ _
    rw [come_bit hb hp w.p (Nat.le_refl _)]
    constructor
    · intro q
      rcases q with q | ⟨a, x, y, z⟩
      · exact Or.inl q
      · have := (hP h a h1 h2 x b hb).mp z
        exact Or.inr ⟨⟨a, by omega, y, this.2.1⟩, this.2.2⟩
    · intro q
      rcases q with q | ⟨⟨a, x, y, z⟩, t⟩
      · exact Or.inl q
      · have ta := hc a (by omega) y
        have ha := ((tp a (by omega)).mp ta).1
        exact Or.inr ⟨a, ha, y, (hP h a h1 h2 ha b hb).mpr ⟨ta, z, t⟩⟩
  refine ⟨b_eq fun b hb => ?_, fun b hb q => ?_⟩
  · rw [key b hb]
    unfold F_X12_spread
    rw [b_and (L1_X12_spread (F 12) (F 13) (F 14) (F 15) (F 16) (F 17) i 0 (nI h) ct co co w.lc), b_nt _ hb, Bool.and_eq_true, spread_bit ok ow hr hb w.lc (Nat.le_refl _)]
    have ex : (∃ j : Nat, j < w.lc ∧ ∃ a : Nat, a < 7 ∧ bt co a = true ∧ jw w.L j a b (nI h)) ↔ ∃ a : Nat, a < 7 ∧ bt co a = true ∧ bt (kx w (h * 7 + a)) b = true := by
      constructor
      · rintro ⟨j, x, a, y1, y2, y3⟩
        exact ⟨a, y1, y2, (kx_bit ok y1 hb h1 h2).mpr ⟨j, x, y3⟩⟩
      · rintro ⟨a, y1, y2, y3⟩
        obtain ⟨j, x, z⟩ := (kx_bit ok y1 hb h1 h2).mp y3
        exact ⟨j, x, a, y1, y2, z⟩
    rw [ex]
    constructor
    · intro q
      rcases q with q | ⟨q, t⟩
      · have := ((tp b hb).mp (hc b hb q)).2
        exact ⟨Or.inl q, by rw [this]; rfl⟩
      · have := ((tp b hb).mp t).2
        exact ⟨Or.inr q, by rw [this]; rfl⟩
    · rintro ⟨q | q, t⟩
      · exact Or.inl q
      · obtain ⟨a, y1, y2, y3⟩ := q
        have hbp := (kx_in ok nl y1 hb h1 h2 y3).1
        refine Or.inr ⟨⟨a, y1, y2, y3⟩, (tp b hb).mpr ⟨hbp, ?_⟩⟩
        cases z : bt (w.mn nw) b with
        | false => rfl
        | true => rw [z] at t; cases t
  · rcases (key b hb).mp q with q | q
    · exact hc b hb q
    · exact q.2
theorem rch_loop {nw z : Nat} {cA : Nat → Int32} {c0 m0 : Int32} {y : Int32} (ok : VOK w) (ow : OWB w) (nl : NLP w) (hr : RP1 F i w) (hP : PRP w nw cA) (hnw : tN y = nw) (hn4 : nw < 4) (hi : i < 2 ^ 31) (h1 : 1 ≤ z) (hc : ∀ b : Nat, b < 32 → bt c0 b = true → bt (TPw w nw) b = true) : ∀ k : Nat, z + k ≤ 25 → L1_X7_upperEnd w.p cA z m0 c0 k = L1_X12_reach (F 7) (F 11) (F 12) (F 13) (F 14) (F 15) (F 16) (F 17) (nI i) y (nI z) m0 c0 k ∧ ∀ b : Nat, b < 32 → bt (L1_X7_upperEnd w.p cA z m0 c0 k).2 b = true → bt (TPw w nw) b = true
  | 0, _ => ⟨rfl, hc⟩
  | k + 1, hk => by
    obtain ⟨e, hb⟩ := rch_loop (m0 := m0) ok ow nl hr hP hnw hn4 hi h1 hc k (by omega)
    have hlc := ok.2.1
    have st := step_reach (F := F) (i := i) (co := (L1_X7_upperEnd w.p cA z m0 c0 k).2) (ct := 0) (h := z + k) ok ow nl hr hP (by omega) (by omega) hb
    have es : F 11 (4 * i + nw) = w.mn nw := (hr.2.2.2.1 nw hn4).2.2
    have e1 : L1_X7_upperEnd w.p cA z m0 c0 (k + 1) = (mn2 (2 * (L1_X7_upperEnd w.p cA z m0 c0 k).1) (F_J6_bitCount (F_X7_comeToAfter w.p cA (L1_X7_upperEnd w.p cA z m0 c0 k).2 (z + k))), F_X7_comeToAfter w.p cA (L1_X7_upperEnd w.p cA z m0 c0 k).2 (z + k)) := rfl
    have e2 : L1_X12_reach (F 7) (F 11) (F 12) (F 13) (F 14) (F 15) (F 16) (F 17) (nI i) y (nI z) m0 c0 (k + 1) = L1_X12_reachs (F 7) (F 11) (F 12) (F 13) (F 14) (F 15) (F 16) (F 17) (nI i) y (nI z) k (L1_X12_reach (F 7) (F 11) (F 12) (F 13) (F 14) (F 15) (F 16) (F 17) (nI i) y (nI z) m0 c0 k).1 (L1_X12_reach (F 7) (F 11) (F 12) (F 13) (F 14) (F 15) (F 16) (F 17) (nI i) y (nI z) m0 c0 k).2 := rfl
    refine ⟨?_, st.2⟩
    rw [e1, e2, ← e]
    unfold L1_X12_reachs
    rw [tN_nI hi, tN_nI (show z < 2 ^ 31 by omega), hr.2.1, tN_nI (show w.lc < 2 ^ 31 by omega), hnw, es, ← st.1]
end
/-! the answer -/
def rcH (w : VV) (y z t : Int32) : Int32 := if F_X11_isNews y = 0 then -1 else (if F_X11_isHour z = 0 then -1 else (if t < 0 then -1 else (if t ≤ nI (25 - tN z) then (L1_X7_upperEnd w.p (F_X7_prepare (fun _ => 0) w.p w.de w.mu w.mn (kx w) (tN y)).2.2.2 (tN z) (F_J6_bitCount (w.kn (tN y) &&& TPw w (tN y))) (w.kn (tN y) &&& TPw w (tN y)) (tN t)).1 else -1)))
theorem come_cong {w : VV} {nw h : Nat} {cA cB : Nat → Int32} {co : Int32} (ok : VOK w) (hA : PRP w nw cA) (hB : PRP w nw cB) (h1 : 1 ≤ h) (h2 : h ≤ 24) : F_X7_comeToAfter w.p cA co h = F_X7_comeToAfter w.p cB co h := b_eq fun b hb => by
  show bt (L1_X7_comeToAfter cA co h co w.p) b = true ↔ bt (L1_X7_comeToAfter cB co h co w.p) b = true
  rw [come_bit hb ok.1 w.p (Nat.le_refl _), come_bit hb ok.1 w.p (Nat.le_refl _)]
  refine ⟨fun q => q.imp id fun ⟨a, x, y, z⟩ => ⟨a, x, y, ?_⟩, fun q => q.imp id fun ⟨a, x, y, z⟩ => ⟨a, x, y, ?_⟩⟩
  · exact (hB h a h1 h2 x b hb).mpr ((hA h a h1 h2 x b hb).mp z)
  · exact (hA h a h1 h2 x b hb).mpr ((hB h a h1 h2 x b hb).mp z)
theorem upper_cong {w : VV} {nw z : Nat} {cA cB : Nat → Int32} {m0 c0 : Int32} (ok : VOK w) (hA : PRP w nw cA) (hB : PRP w nw cB) (h1 : 1 ≤ z) : ∀ k : Nat, z + k ≤ 25 → L1_X7_upperEnd w.p cA z m0 c0 k = L1_X7_upperEnd w.p cB z m0 c0 k
  | 0, _ => rfl
  | k + 1, hk => by
    have ih := upper_cong (m0 := m0) (c0 := c0) ok hA hB h1 k (by omega)
    show L1_X7_upperEnds w.p cA z k (L1_X7_upperEnd w.p cA z m0 c0 k).1 (L1_X7_upperEnd w.p cA z m0 c0 k).2 = L1_X7_upperEnds w.p cB z k (L1_X7_upperEnd w.p cB z m0 c0 k).1 (L1_X7_upperEnd w.p cB z m0 c0 k).2
    rw [ih]
    unfold L1_X7_upperEnds
    rw [come_cong ok hA hB (by omega) (by omega)]
theorem rc_cls {w : VV} {zp zd zt zm : Int32} {cA : Nat → Int32} {y z t : Int32} (ok : VOK w) : (F_X11_reach1 zp zd zt zm cA w.p w.de w.kn w.mu w.mn (kx w) y z t).1 = rcH w y z t := by
  unfold F_X11_reach1 rcH
  by_cases h1 : F_X11_isNews y = 0
  · rw [if_pos h1, if_pos h1]
  · rw [if_neg h1, if_neg h1]
    by_cases h2 : F_X11_isHour z = 0
    · rw [if_pos h2, if_pos h2]
    · rw [if_neg h2, if_neg h2]
      by_cases h3 : t < 0
      · rw [if_pos h3, if_pos h3]
      · rw [if_neg h3, if_neg h3]
        by_cases h4 : t ≤ nI (25 - tN z)
        · rw [if_pos h4, if_pos h4]
          obtain ⟨-, z1, z2⟩ := hr_at h2
          obtain ⟨-, -, t2⟩ := bn_at (x := t) (lo := 0) (hi := 25 - tN z) (by omega) (Int32.not_lt.mp h3) h4
          show (L1_X7_upperEnd w.p (F_X7_prepare cA w.p w.de w.mu w.mn (kx w) (tN y)).2.2.2 (tN z) (F_J6_bitCount (w.kn (tN y) &&& TPw w (tN y))) (w.kn (tN y) &&& TPw w (tN y)) (tN t)).1 = _
          rw [upper_cong ok (prp_of ok) (prp_of ok) z1 (tN t) (by omega)]
        · rw [if_neg h4, if_neg h4]
theorem rc_ref {nv : Nat} {V : Nat → VV} {F : Nat → Nat → Int32} {x y z t : Int32} (hnv : nv ≤ 10) (hV : RPW nv V F) (ow : ∀ i : Nat, i < nv → OWB (V i)) (hN : ∀ i : Nat, i < nv → NLP (V i)) (hK : ∀ i : Nat, i < nv → KNB (V i)) : F_X12_reach nv (F 7) (F 9) (F 11) (F 12) (F 13) (F 14) (F 15) (F 16) (F 17) x y z t = vAns nv V x (-1) (fun w => rcH w y z t) := by
  rcases vin_cases (n := nv) (by omega) x with hb | ⟨i, hi, rfl⟩
  · rw [vAns_no hb]
    unfold F_X12_reach F_X12_isAsked
    rw [rv_no hb, if_pos rfl, if_pos rfl]
  · rw [vAns_ok hnv hi]
    obtain ⟨ok, hr⟩ := hV i hi
    have hp := ok.1
    unfold F_X12_reach F_X12_isAsked rcH F_X12_isIn
    rw [if_neg (rv_yes hnv hi), show F_X12_isNews y = F_X11_isNews y from rfl, show F_X12_isHour z = F_X11_isHour z from rfl]
    by_cases h1 : F_X11_isNews y = 0
    · rw [if_pos h1, if_pos rfl, if_pos h1]
    · rw [if_neg h1, if_neg (show ¬ (1 : Int32) = 0 by decide), if_neg h1]
      by_cases h2 : F_X11_isHour z = 0
      · rw [if_pos h2, if_pos h2]
      · rw [if_neg h2, if_neg h2]
        by_cases h3 : t < 0
        · rw [if_pos h3, if_pos rfl, if_pos h3]
        · rw [if_neg h3, if_neg h3]
          by_cases h4 : t ≤ nI (25 - tN z)
          · rw [if_neg (Int32.not_lt.mpr h4), if_neg (show ¬ (1 : Int32) = 0 by decide), if_pos h4]
            obtain ⟨ez, z1, z2⟩ := hr_at h2
            obtain ⟨-, -, t2⟩ := bn_at (x := t) (lo := 0) (hi := 25 - tN z) (by omega) (Int32.not_lt.mp h3) h4
            have y4 := (hn_at h1).2
            have e0 : F 9 (4 * i + tN y) &&& (F 11 (4 * i + tN y) ^^^ (-1 : Int32)) = (V i).kn (tN y) &&& TPw (V i) (tN y) := by
              rw [(hr.2.2.2.1 _ y4).1, (hr.2.2.2.1 _ y4).2.2]
              refine b_eq fun b hb => ?_
              rw [b_and, b_and, b_and, b_evy (V i).p (by omega) b hb]
              cases q : bt ((V i).kn (tN y)) b with
              | false => rfl
              | true => rw [decide_eq_true (hK i hi (tN y) b y4 hb q), Bool.true_and, Bool.true_and]
            rw [tN_nI (show i < 2 ^ 31 by omega), e0]
            have L := (rch_loop (F := F) (i := i) (y := y) (m0 := F_J6_bitCount ((V i).kn (tN y) &&& TPw (V i) (tN y))) (c0 := (V i).kn (tN y) &&& TPw (V i) (tN y)) ok (ow i hi) (hN i hi) hr (prp_of (cA := fun _ => 0) (de := (V i).de) (mu := (V i).mu) ok) rfl y4 (by omega) z1 (fun b hb q => by
              rw [b_and, Bool.and_eq_true] at q
              exact q.2) (tN t) (by omega)).1
            rw [← ez] at L
            rw [L]
          · rw [if_pos (Int32.not_le.mp h4), if_pos rfl, if_neg h4]

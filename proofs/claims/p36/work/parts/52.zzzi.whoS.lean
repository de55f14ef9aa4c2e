/-! who can have begun: the states that the reference comes to, hour by hour -/
/-- whether those know it who have told by now, and nobody who tells later -/
def ATo (p : Nat) (T : Nat → Int32) (h : Nat) (k : Int32) : Prop := ∀ o : Nat, o < p → ¬ T o = -1 → (bt k o = true ↔ ¬ nI h < T o)
theorem told_iff {tA : Nat → Int32} {p i ni h : Nat} {kw : Int32} (hp : p ≤ 7) : ¬ F_X12_isAsTold tA p i ni kw h = 0 ↔ ATo p (fun o => F_X12_taleOf tA i ni o) h kw := by
  have e : ∀ m j : Nat, p < m + j → j ≤ p → (¬ L1_X12_isAsTold tA p i ni kw h m j = 0 ↔ ∀ o : Nat, j ≤ o → o < p → ¬ F_X12_taleOf tA i ni o = -1 → (bt kw o = true ↔ ¬ nI h < F_X12_taleOf tA i ni o)) := by
    intro m
    induction m with
    | zero => intro j h1 h2; exact absurd h1 (by omega)
    | succ m ih =>
      intro j h1 h2
      rw [L1_X12_isAsTold]
      by_cases c1 : nI p ≤ nI j
      · rw [if_pos c1]
        have hj := (nI_leI (a := p) (b := j) (by omega) (by omega)).mp c1
        exact ⟨fun _ o a b => absurd b (by omega), fun _ => by decide⟩
      · rw [if_neg c1]
        have hj : j < p := by
          have z : ¬ p ≤ j := fun z => c1 ((nI_leI (by omega) (by omega)).mpr z)
          omega
        have ih2 := ih (j + 1) (by omega) (by omega)
        have go : (¬ F_X12_taleOf tA i ni j = -1 → (bt kw j = true ↔ ¬ nI h < F_X12_taleOf tA i ni j)) → (¬ L1_X12_isAsTold tA p i ni kw h m (j + 1) = 0 ↔ ∀ o : Nat, j ≤ o → o < p → ¬ F_X12_taleOf tA i ni o = -1 → (bt kw o = true ↔ ¬ nI h < F_X12_taleOf tA i ni o)) := fun z => by
          rw [ih2]
          constructor
          · intro q o a b
            by_cases y : o = j
            · rw [y]; exact z
            · exact q o (by omega) b
          · intro q o a b
            exact q o (by omega) b
        by_cases c2 : F_X12_taleOf tA i ni j = -1
        · rw [if_pos c2]; exact go fun q => absurd c2 q
        · rw [if_neg c2]
          by_cases c3 : nI h < F_X12_taleOf tA i ni j
          · rw [if_pos c3]
            by_cases c4 : (kw >>> (nI j &&& 31)) &&& (1 : Int32) = 1
            · rw [if_pos c4]
              exact ⟨fun q => absurd rfl q, fun q => absurd c3 ((q j (Nat.le_refl _) hj c2).mp ((shrb_1 (by omega)).mp c4))⟩
            · rw [if_neg c4]
              exact go fun _ => ⟨fun q => absurd ((shrb_1 (by omega)).mpr q) c4, fun q => absurd c3 q⟩
          · rw [if_neg c3]
            by_cases c4 : (kw >>> (nI j &&& 31)) &&& (1 : Int32) = 1
            · rw [if_pos c4]
              exact go fun _ => ⟨fun _ => c3, fun _ => (shrb_1 (by omega)).mp c4⟩
            · rw [if_neg c4]
              exact ⟨fun q => absurd rfl q, fun q => absurd ((shrb_1 (by omega)).mpr ((q j (Nat.le_refl _) hj c2).mpr c3)) c4⟩
  exact (e (p + 1) 0 (by omega) (Nat.zero_le _)).trans ⟨fun q o a => q o (Nat.zero_le _) a, fun q o _ a => q o a⟩
/-- a place among the reference's states -/
def PLr (k o : Int32) : Nat := 128 * tN k + tN o
theorem plr_inj {k o k2 o2 : Int32} (h1 : s7 k) (h2 : s7 o) (h3 : s7 k2) (h4 : s7 o2) (e : PLr k o = PLr k2 o2) : k = k2 ∧ o = o2 := by
  have b1 := (s7_num h2).2
  have b2 := (s7_num h4).2
  unfold PLr at e
  have q1 : tN k = tN k2 := by omega
  have q2 : tN o = tN o2 := by omega
  exact ⟨s7_eq h1 h3 q1, s7_eq h2 h4 q2⟩
theorem plr_lt {k o : Int32} (h1 : s7 k) (h2 : s7 o) : PLr k o < 16384 := by
  have b1 := (s7_num h1).2
  have b2 := (s7_num h2).2
  unfold PLr
  omega
abbrev knR (zd kw oz C : Int32) : Int32 := kw ||| ((C &&& (kw ^^^ (-1 : Int32))) &&& ((zd ^^^ (-1 : Int32)) ||| oz))
abbrev onR (zd kw oz C : Int32) : Int32 := ((oz ||| (C &&& (kw ^^^ (-1 : Int32)))) &&& zd) &&& (knR zd kw oz C ^^^ (-1 : Int32))
section
variable {p : Nat} {zd zt : Int32} {cA rA rB rD rF rO rS rT rW tA : Nat → Int32} {i lc ni h : Nat} {kw oz : Int32}
/-- a row that marks a place -/
def MKr (p i ni h : Nat) (zd : Int32) (tA : Nat → Int32) (kw oz : Int32) (q : Nat) (r : Nat → Nat) : Prop := ATo p (fun o => F_X12_taleOf tA i ni o) h (knR zd kw oz (rset r p)) ∧ q = PLr (knR zd kw oz (rset r p)) (onR zd kw oz (rset r p))
theorem gr_leaf (hp : p ≤ 7) (hD : rD i = zd) {r : Nat → Nat} {D : Nat → Int32} (q : Nat) : ¬ F_X12_goRowsL rD tA D p i ni h kw oz (rset r p) q = 0 ↔ ¬ D q = 0 ∨ MKr p i ni h zd tA kw oz q r := by
  unfold F_X12_goRowsL MKr
  rw [hD]
  by_cases c : F_X12_isAsTold tA p i ni (knR zd kw oz (rset r p)) h = 0
  · rw [if_pos c]
    exact ⟨Or.inl, fun z => z.elim id fun z => absurd c ((told_iff hp).mpr z.1)⟩
  · rw [if_neg c]
    have ht := (told_iff hp).mp c
    by_cases e : q = PLr (knR zd kw oz (rset r p)) (onR zd kw oz (rset r p))
    · have e2 : upd D (128 * tN (knR zd kw oz (rset r p)) + tN (onR zd kw oz (rset r p))) 1 q = 1 := by
        rw [e]
        exact upd_eq
      rw [show (128 * tN (kw ||| ((rset r p &&& (kw ^^^ (-1 : Int32))) &&& ((zd ^^^ (-1 : Int32)) ||| oz))) + tN (((oz ||| (rset r p &&& (kw ^^^ (-1 : Int32)))) &&& zd) &&& ((kw ||| ((rset r p &&& (kw ^^^ (-1 : Int32))) &&& ((zd ^^^ (-1 : Int32)) ||| oz))) ^^^ (-1 : Int32)))) = 128 * tN (knR zd kw oz (rset r p)) + tN (onR zd kw oz (rset r p)) from rfl, e2]
      exact ⟨fun _ => Or.inr ⟨ht, e⟩, fun _ => by decide⟩
    · have e2 : upd D (128 * tN (knR zd kw oz (rset r p)) + tN (onR zd kw oz (rset r p))) 1 q = D q := upd_ne e
      rw [show (128 * tN (kw ||| ((rset r p &&& (kw ^^^ (-1 : Int32))) &&& ((zd ^^^ (-1 : Int32)) ||| oz))) + tN (((oz ||| (rset r p &&& (kw ^^^ (-1 : Int32)))) &&& zd) &&& ((kw ||| ((rset r p &&& (kw ^^^ (-1 : Int32))) &&& ((zd ^^^ (-1 : Int32)) ||| oz))) ^^^ (-1 : Int32)))) = 128 * tN (knR zd kw oz (rset r p)) + tN (onR zd kw oz (rset r p)) from rfl, e2]
      exact ⟨Or.inl, fun z => z.elim id fun z => absurd z.2 e⟩
theorem gr_loop (hp : p ≤ 7) (hch : CHK p (chX cA (F_X7_state kw oz) h zt) kw (rS (4 * i + ni)) (MCf rA rB rF rT rW rO lc i h)) {fj : Nat} (hfj : fj < p) {r : Nat → Nat} (hr : RWp p (chX cA (F_X7_state kw oz) h zt) fj r) {bu : Int32} (hbu : BU bu r fj) (hk : bt kw fj = true) (hn : bt (rS (4 * i + ni)) fj = false) {R : GRT} {q : Nat}
    (hR : ∀ r2 : Nat → Nat, RWp p (chX cA (F_X7_state kw oz) h zt) (fj + 1) r2 → ∀ bu : Int32, BU bu r2 (fj + 1) → ∀ D : Nat → Int32, (¬ R (fj + 1) bu (rset r2 (fj + 1)) D q = 0 ↔ ¬ D q = 0 ∨ ∃ r3 : Nat → Nat, RWp p (chX cA (F_X7_state kw oz) h zt) p r3 ∧ (∀ a : Nat, a < fj + 1 → r3 a = r2 a) ∧ MKr p i ni h zd tA kw oz q r3)) {D : Nat → Int32} :
    ∀ k : Nat, k ≤ p → (¬ L1_X12_goRows rS rA rB rF rT rW rO lc i ni h kw fj bu (rset r fj) R D k q = 0 ↔ ¬ D q = 0 ∨ ∃ r3 : Nat → Nat, RWp p (chX cA (F_X7_state kw oz) h zt) p r3 ∧ (∀ a : Nat, a < fj → r3 a = r a) ∧ r3 fj < k ∧ MKr p i ni h zd tA kw oz q r3)
  | 0, _ => ⟨Or.inl, fun z => z.elim id fun ⟨_, _, _, z, _⟩ => absurd z (Nat.not_lt_zero _)⟩
  | k + 1, hk2 => by
    have ih := gr_loop hp hch hfj hr hbu hk hn hR (D := D) k (by omega)
    have e : L1_X12_goRows rS rA rB rF rT rW rO lc i ni h kw fj bu (rset r fj) R D (k + 1) = L1_X12_goRowss rS rA rB rF rT rW rO lc i ni h kw fj bu (rset r fj) R k (L1_X12_goRows rS rA rB rF rT rW rO lc i ni h kw fj bu (rset r fj) R D k) := rfl
    rw [e]
    generalize L1_X12_goRows rS rA rB rF rT rW rO lc i ni h kw fj bu (rset r fj) R D k = u at ih ⊢
    have hkp : k < p := by omega
    have skip : (∀ r3 : Nat → Nat, RWp p (chX cA (F_X7_state kw oz) h zt) p r3 → (∀ a : Nat, a < fj → r3 a = r a) → ¬ r3 fj = k) → (¬ u q = 0 ↔ ¬ D q = 0 ∨ ∃ r3 : Nat → Nat, RWp p (chX cA (F_X7_state kw oz) h zt) p r3 ∧ (∀ a : Nat, a < fj → r3 a = r a) ∧ r3 fj < k + 1 ∧ MKr p i ni h zd tA kw oz q r3) := fun hno => by
      rw [ih]
      refine or_congr Iff.rfl ⟨?_, ?_⟩
      · rintro ⟨r3, a1, a2, a3, a4⟩
        exact ⟨r3, a1, a2, by omega, a4⟩
      · rintro ⟨r3, a1, a2, a3, a4⟩
        have := hno r3 a1 a2
        exact ⟨r3, a1, a2, by omega, a4⟩
    have hbt : ∀ r3 : Nat → Nat, RWp p (chX cA (F_X7_state kw oz) h zt) p r3 → r3 fj = k → bt (chX cA (F_X7_state kw oz) h zt fj) k = true ∧ ∀ c : Nat, c < fj → ¬ r3 c = k := fun r3 a1 e => by
      rcases a1 fj hfj with z | ⟨_, z2, z3⟩
      · omega
      · rw [e] at z2 z3
        exact ⟨z2, z3⟩
    unfold L1_X12_goRowss
    by_cases c3 : nI k = nI fj
    · rw [if_pos c3]
      have e := (nI_eq (a := k) (b := fj) (by omega) (by omega)).mp c3
      refine skip fun r3 a1 a2 y => ?_
      have := ((hch fj k hfj hkp).mp (hbt r3 a1 y).1).2.2.2.2
      rw [e, hk] at this; cases this
    · rw [if_neg c3]
      by_cases c4 : (((bu ||| rS (4 * i + ni)) ||| kw) >>> (nI k &&& 31)) &&& (1 : Int32) = 1
      · rw [if_pos c4]
        refine skip fun r3 a1 a2 y => ?_
        have z := (shrb_1 (by omega)).mp c4
        rw [b_or, b_or, Bool.or_eq_true, Bool.or_eq_true] at z
        obtain ⟨y1, y2⟩ := hbt r3 a1 y
        obtain ⟨-, -, -, y3, y4⟩ := (hch fj k hfj hkp).mp y1
        rcases z with (z | z) | z
        · obtain ⟨a, ha, w1, w2⟩ := (hbu k (by omega)).mp z
          rcases w2 with w2 | w2
          · rcases hr a ha with w3 | ⟨w3, w4, -⟩
            · exact w1 w3
            · have := ((hch a (r a) (by omega) w3).mp w4).1
              rw [w2, y4] at this; cases this
          · exact y2 a ha (by rw [a2 a ha]; exact w2)
        · rw [y3] at z; cases z
        · rw [y4] at z; cases z
      · rw [if_neg c4]
        by_cases c5 : F_X12_mayCall rA rB rF rT rW rO lc i fj k (nI h) = 0
        · rw [if_pos c5]
          refine skip fun r3 a1 a2 y => ?_
          exact ((hch fj k hfj hkp).mp (hbt r3 a1 y).1).2.2.1 c5
        · rw [if_neg c5]
          have z : ¬ (bt bu k = true ∨ bt (rS (4 * i + ni)) k = true ∨ bt kw k = true) := fun z => c4 ((shrb_1 (by omega)).mpr (by
            rw [b_or, b_or, Bool.or_eq_true, Bool.or_eq_true]
            rcases z with z | z | z
            · exact Or.inl (Or.inl z)
            · exact Or.inl (Or.inr z)
            · exact Or.inr z))
          have f0 : ∀ {x : Bool}, ¬ x = true → x = false := fun {x} q => by cases x with | false => rfl | true => exact absurd rfl q
          have hcj : bt (chX cA (F_X7_state kw oz) h zt fj) k = true := (hch fj k hfj hkp).mpr ⟨hk, hn, c5, f0 fun q => z (Or.inr (Or.inl q)), f0 fun q => z (Or.inr (Or.inr q))⟩
          have hnc : ∀ c : Nat, c < fj → ¬ r c = k := fun c hc q => z (Or.inl ((hbu k (by omega)).mpr ⟨c, hc, by omega, Or.inr q⟩))
          have hk7 : ¬ k = 7 := by omega
          have g := hR (rput r fj k) (hr.call hkp hcj hnc) _ (hbu.call (by omega) (by omega)) u
          rw [rset_call hk7] at g
          rw [g, ih, or_assoc]
          refine or_congr Iff.rfl ⟨?_, ?_⟩
          · rintro (⟨r3, a1, a2, a3, a4⟩ | ⟨r3, a1, a2, a4⟩)
            · exact ⟨r3, a1, a2, by omega, a4⟩
            · refine ⟨r3, a1, fun a ha => (a2 a (by omega)).trans (rput_lt a ha), ?_, a4⟩
              rw [a2 fj (by omega), rput_eq]
              omega
          · rintro ⟨r3, a1, a2, a3, a4⟩
            by_cases y : r3 fj = k
            · refine Or.inr ⟨r3, a1, fun a ha => ?_, a4⟩
              by_cases w : a = fj
              · rw [w, rput_eq]; exact y
              · rw [rput_ne w]; exact a2 a (by omega)
            · exact Or.inl ⟨r3, a1, a2, by omega, a4⟩
theorem gr_all (hp : p ≤ 7) (hD : rD i = zd) (hH : CHH p zt cA (rS (4 * i + ni)) (MCf rA rB rF rT rW rO lc i)) (h1 : 1 ≤ h) (h2 : h ≤ 24) (hg : GD2 zd kw oz) (q : Nat) : ∀ f fj : Nat, fj + f = p → ∀ r : Nat → Nat, RWp p (chX cA (F_X7_state kw oz) h zt) fj r → ∀ bu : Int32, BU bu r fj → ∀ D : Nat → Int32, (¬ GRf h i kw lc ni oz p rA rB rD rF rO rS rT rW tA f fj bu (rset r fj) D q = 0 ↔ ¬ D q = 0 ∨ ∃ r3 : Nat → Nat, RWp p (chX cA (F_X7_state kw oz) h zt) p r3 ∧ (∀ a : Nat, a < fj → r3 a = r a) ∧ MKr p i ni h zd tA kw oz q r3)
  | 0, fj, e, r, hr, bu, hbu, D => by
    have e2 : fj = p := by omega
    rw [e2] at hr ⊢
    refine Iff.trans (gr_leaf hp hD q) (or_congr Iff.rfl ⟨fun z => ⟨r, hr, fun _ _ => rfl, z⟩, ?_⟩)
    rintro ⟨r3, -, a2, a4⟩
    unfold MKr at a4 ⊢
    rw [rset_cong p a2] at a4
    exact a4
  | f + 1, fj, e, r, hr, bu, hbu, D => by
    have hfj : fj < p := by omega
    have hch := chk_of hp hH h1 h2 (o := oz) hg.1
    have hR := fun r2 hr2 bu hbu D => gr_all hp hD hH h1 h2 hg q f (fj + 1) (by omega) r2 hr2 bu hbu D
    have eT : GRf h i kw lc ni oz p rA rB rD rF rO rS rT rW tA (f + 1) fj bu (rset r fj) D = F_X12_goRows rS rA rB rF rT rW rO D lc p i ni h kw fj bu (rset r fj) (GRf h i kw lc ni oz p rA rB rD rF rO rS rT rW tA f) := rfl
    rw [eT]
    unfold F_X12_goRows
    have still : ∀ D2 : Nat → Int32, (¬ GRf h i kw lc ni oz p rA rB rD rF rO rS rT rW tA f (fj + 1) bu (rset r fj) D2 q = 0 ↔ ¬ D2 q = 0 ∨ ∃ r3 : Nat → Nat, RWp p (chX cA (F_X7_state kw oz) h zt) p r3 ∧ (∀ a : Nat, a < fj → r3 a = r a) ∧ r3 fj = 7 ∧ MKr p i ni h zd tA kw oz q r3) := fun D2 => by
      have g := hR (rput r fj 7) hr.still bu hbu.still D2
      rw [rset_still] at g
      rw [g]
      refine or_congr Iff.rfl ⟨?_, ?_⟩
      · rintro ⟨r3, a1, a2, a4⟩
        exact ⟨r3, a1, fun a ha => (a2 a (by omega)).trans (rput_lt a ha), by rw [a2 fj (by omega), rput_eq], a4⟩
      · rintro ⟨r3, a1, a2, a3, a4⟩
        refine ⟨r3, a1, fun a ha => ?_, a4⟩
        by_cases y : a = fj
        · rw [y, rput_eq]; exact a3
        · rw [rput_ne y]; exact a2 a (by omega)
    have nocall : (∀ c : Nat, c < p → ¬ bt (chX cA (F_X7_state kw oz) h zt fj) c = true) → (¬ GRf h i kw lc ni oz p rA rB rD rF rO rS rT rW tA f (fj + 1) bu (rset r fj) D q = 0 ↔ ¬ D q = 0 ∨ ∃ r3 : Nat → Nat, RWp p (chX cA (F_X7_state kw oz) h zt) p r3 ∧ (∀ a : Nat, a < fj → r3 a = r a) ∧ MKr p i ni h zd tA kw oz q r3) := fun hno => by
      rw [still D]
      refine or_congr Iff.rfl ⟨fun ⟨r3, a1, a2, _, a4⟩ => ⟨r3, a1, a2, a4⟩, fun ⟨r3, a1, a2, a4⟩ => ⟨r3, a1, a2, ?_, a4⟩⟩
      rcases a1 fj hfj with z | ⟨z, z2, -⟩
      · exact z
      · exact absurd z2 (hno _ z)
    by_cases c1 : (kw >>> (nI fj &&& 31)) &&& (1 : Int32) = 1
    · rw [if_pos c1]
      have hk := (shrb_1 (by omega)).mp c1
      by_cases c2 : (rS (4 * i + ni) >>> (nI fj &&& 31)) &&& (1 : Int32) = 0
      · rw [if_pos c2]
        have hn := (shr_0 (by omega)).mp c2
        by_cases c3 : (bu >>> (nI fj &&& 31)) &&& (1 : Int32) = 0
        · rw [if_pos c3, still, gr_loop hp hch hfj hr hbu hk hn hR p (Nat.le_refl _), or_assoc]
          refine or_congr Iff.rfl ⟨?_, ?_⟩
          · rintro (⟨r3, a1, a2, _, a4⟩ | ⟨r3, a1, a2, _, a4⟩) <;> exact ⟨r3, a1, a2, a4⟩
          · rintro ⟨r3, a1, a2, a4⟩
            rcases a1 fj hfj with z | ⟨z, -, -⟩
            · exact Or.inr ⟨r3, a1, a2, z, a4⟩
            · exact Or.inl ⟨r3, a1, a2, z, a4⟩
        · exfalso
          have hbf : bt bu fj = true := by
            cases y : bt bu fj with
            | true => rfl
            | false => exact absurd ((shr_0 (by omega)).mpr y) c3
          obtain ⟨a, ha, w1, w2⟩ := (hbu fj (by omega)).mp hbf
          rcases w2 with w2 | w2
          · omega
          · rcases hr a ha with w3 | ⟨w3, w4, -⟩
            · exact w1 w3
            · have := ((hch a (r a) (by omega) w3).mp w4).2.2.2.2
              rw [w2, hk] at this; cases this
      · rw [if_neg c2]
        exact nocall fun c hc y => c2 ((shr_0 (by omega)).mpr ((hch fj c hfj hc).mp y).2.1)
    · rw [if_neg c1]
      exact nocall fun c hc y => c1 ((shrb_1 (by omega)).mpr ((hch fj c hfj hc).mp y).1)
end

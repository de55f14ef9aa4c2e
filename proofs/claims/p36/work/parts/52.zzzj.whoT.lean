section
variable {p : Nat} {zd zt x0 : Int32} {cA T : Nat → Int32}
/-- where one comes to by any rows, as told hour by hour -/
def WRx (p : Nat) (zd zt : Int32) (cA T : Nat → Int32) (x0 : Int32) : Nat → Int32 → Prop
  | 0 => fun x => x = x0
  | h + 1 => fun y => ∃ (x : Int32) (r : Nat → Nat), WRx p zd zt cA T x0 h x ∧ RWp p (chX cA x (h + 1) zt) p r ∧ y = F_X7_stateAfter zd x (rset r p) ∧ ATo p T (h + 1) (F_X7_knownIn y)
theorem row_new {k o : Int32} {h : Nat} (hp : p ≤ 7) (hk : s7 k) {r : Nat → Nat} (hr : RWp p (chX cA (F_X7_state k o) h zt) p r) : ∀ i : Nat, i < 32 → bt (rset r p) i = true → bt k i = false := fun b hb q => by
  obtain ⟨a, ha, e1, e2⟩ := (rset_bit p (fun a ha => hr.le hp ha) b hb).mp q
  rcases hr a ha with z | ⟨z1, z2, -⟩
  · exact absurd z e2
  · unfold chX at z2
    rw [st_kn hk] at z2
    by_cases y : hasv k (nI a) = 0
    · rw [if_pos y, b_0] at z2; cases z2
    · rw [if_neg y, b_and, b_nt _ (by omega), Bool.and_eq_true, Bool.not_eq_true'] at z2
      rw [← e1]; exact z2.2
theorem wr_step {k o : Int32} {h : Nat} (hp : p ≤ 7) (hg : GD2 zd k o) {r : Nat → Nat} (hr : RWp p (chX cA (F_X7_state k o) h zt) p r) : F_X7_stateAfter zd (F_X7_state k o) (rset r p) = F_X7_state (knR zd k o (rset r p)) (onR zd k o (rset r p)) ∧ GD2 zd (knR zd k o (rset r p)) (onR zd k o (rset r p)) := aft_ref hg (rset_7 fun a ha => hr.le hp ha) (row_new hp hg.1 hr)
theorem wr_gd (hp : p ≤ 7) (h0 : ∃ k o : Int32, GD2 zd k o ∧ x0 = F_X7_state k o) : ∀ (h : Nat) (y : Int32), WRx p zd zt cA T x0 h y → ∃ k o : Int32, GD2 zd k o ∧ y = F_X7_state k o
  | 0, y, e => by
    obtain ⟨k, o, a, b⟩ := h0
    have e : y = x0 := e
    exact ⟨k, o, a, e.trans b⟩
  | h + 1, y, hy => by
    obtain ⟨x, r, h1, h2, h3, -⟩ := hy
    obtain ⟨k, o, a, b⟩ := wr_gd hp h0 h x h1
    subst b
    obtain ⟨e1, e2⟩ := wr_step hp a h2
    exact ⟨_, _, e2, h3.trans e1⟩
theorem wr_prev {h : Nat} (q : ∃ y : Int32, WRx p zd zt cA T x0 (h + 1) y) : ∃ x : Int32, WRx p zd zt cA T x0 h x := by
  obtain ⟨y, x, r, h1, -⟩ := q
  exact ⟨x, h1⟩
theorem wr_back {h : Nat} : ∀ d : Nat, (∃ y : Int32, WRx p zd zt cA T x0 (h + d) y) → ∃ x : Int32, WRx p zd zt cA T x0 h x
  | 0, q => q
  | d + 1, q => wr_back d (wr_prev q)
/-- the reference's marks of an hour -/
def CANp (p : Nat) (zd zt : Int32) (cA T : Nat → Int32) (x0 : Int32) (h : Nat) (c : Nat → Int32) : Prop := ∀ q : Nat, q < 16384 → (¬ c q = 0 ↔ ∃ k o : Int32, GD2 zd k o ∧ q = PLr k o ∧ WRx p zd zt cA T x0 h (F_X7_state k o))
def B01 (c : Nat → Int32) : Prop := ∀ q : Nat, q < 16384 → c q = 0 ∨ c q = 1
end
section
variable {p : Nat} {zd zt x0 : Int32} {cA rA rB rD rF rO rS rT rW tA : Nat → Int32} {i lc ni h : Nat} {kw oz : Int32}
theorem gr_01L {ca : Int32} {D : Nat → Int32} (hD : B01 D) : B01 (F_X12_goRowsL rD tA D p i ni h kw oz ca) := by
  unfold F_X12_goRowsL
  split
  · exact hD
  · intro q hq
    by_cases e : q = 128 * tN (kw ||| ((ca &&& (kw ^^^ (-1 : Int32))) &&& ((rD i ^^^ (-1 : Int32)) ||| oz))) + tN (((oz ||| (ca &&& (kw ^^^ (-1 : Int32)))) &&& rD i) &&& ((kw ||| ((ca &&& (kw ^^^ (-1 : Int32))) &&& ((rD i ^^^ (-1 : Int32)) ||| oz))) ^^^ (-1 : Int32)))
    · exact Or.inr (by rw [e]; exact upd_eq)
    · rw [upd_ne e]; exact hD q hq
theorem gr_01 : ∀ (f fj : Nat) (bu ca : Int32) (D : Nat → Int32), B01 D → B01 (GRf h i kw lc ni oz p rA rB rD rF rO rS rT rW tA f fj bu ca D)
  | 0, fj, bu, ca, D, hD => gr_01L hD
  | f + 1, fj, bu, ca, D, hD => by
    show B01 (F_X12_goRows rS rA rB rF rT rW rO D lc p i ni h kw fj bu ca (GRf h i kw lc ni oz p rA rB rD rF rO rS rT rW tA f))
    have ih := fun fj bu ca D hD => gr_01 f fj bu ca D hD
    have lp : ∀ k : Nat, B01 (L1_X12_goRows rS rA rB rF rT rW rO lc i ni h kw fj bu ca (GRf h i kw lc ni oz p rA rB rD rF rO rS rT rW tA f) D k) := by
      intro k
      induction k with
      | zero => exact hD
      | succ k ih2 =>
        show B01 (L1_X12_goRowss rS rA rB rF rT rW rO lc i ni h kw fj bu ca (GRf h i kw lc ni oz p rA rB rD rF rO rS rT rW tA f) k (L1_X12_goRows rS rA rB rF rT rW rO lc i ni h kw fj bu ca (GRf h i kw lc ni oz p rA rB rD rF rO rS rT rW tA f) D k))
        unfold L1_X12_goRowss
        (repeat' split) <;> first | exact ih2 | exact ih _ _ _ _ ih2
    unfold F_X12_goRows
    (repeat' split) <;> first | exact ih _ _ _ _ (lp p) | exact ih _ _ _ _ hD
theorem cl_0z {N : Nat → Int32} : ∀ k q : Nat, q < k → L3_X12_canBegin N k q = 0
  | 0, q, h => absurd h (Nat.not_lt_zero _)
  | k + 1, q, h => by
    show upd (L3_X12_canBegin N k) k 0 q = 0
    by_cases e : q = k
    · rw [e, upd_eq]
    · rw [upd_ne e]; exact cl_0z k q (by omega)
theorem go_all (hp : p ≤ 7) (hD : rD i = zd) (hH : CHH p zt cA (rS (4 * i + ni)) (MCf rA rB rF rT rW rO lc i)) (h2 : h + 1 ≤ 24) {c D0 : Nat → Int32} (hc : CANp p zd zt cA (fun o => F_X12_taleOf tA i ni o) x0 h c) (h0 : ∀ q : Nat, q < 16384 → D0 q = 0) : ∀ k : Nat, k ≤ 16384 → B01 (L4_X12_canBegin rD rS rA rB rF rT rW rO tA lc p i ni h c D0 k) ∧ ∀ q : Nat, q < 16384 → (¬ L4_X12_canBegin rD rS rA rB rF rT rW rO tA lc p i ni h c D0 k q = 0 ↔ ∃ (k0 o0 : Int32) (r : Nat → Nat), GD2 zd k0 o0 ∧ PLr k0 o0 < k ∧ WRx p zd zt cA (fun o => F_X12_taleOf tA i ni o) x0 h (F_X7_state k0 o0) ∧ RWp p (chX cA (F_X7_state k0 o0) (h + 1) zt) p r ∧ MKr p i ni (h + 1) zd tA k0 o0 q r)
  | 0, _ => ⟨fun q hq => Or.inl (h0 q hq), fun q hq => ⟨fun z => absurd (h0 q hq) z, fun ⟨_, _, _, _, z, _⟩ => absurd z (Nat.not_lt_zero _)⟩⟩
  | k + 1, hk => by
    obtain ⟨i1, i2⟩ := go_all hp hD hH h2 hc h0 k (by omega)
    have e : L4_X12_canBegin rD rS rA rB rF rT rW rO tA lc p i ni h c D0 (k + 1) = L4_X12_canBegins rD rS rA rB rF rT rW rO tA lc p i ni h c k (L4_X12_canBegin rD rS rA rB rF rT rW rO tA lc p i ni h c D0 k) := rfl
    rw [e]
    generalize L4_X12_canBegin rD rS rA rB rF rT rW rO tA lc p i ni h c D0 k = u at i1 i2 ⊢
    unfold L4_X12_canBegins
    by_cases c1 : c k = 0
    · rw [if_pos c1]
      refine ⟨i1, fun q hq => (i2 q hq).trans ⟨?_, ?_⟩⟩
      · rintro ⟨k0, o0, r, a1, a2, a3⟩
        exact ⟨k0, o0, r, a1, by omega, a3⟩
      · rintro ⟨k0, o0, r, a1, a2, a3, a4⟩
        refine ⟨k0, o0, r, a1, ?_, a3, a4⟩
        by_cases y : PLr k0 o0 = k
        · exact absurd c1 ((hc k (by omega)).mpr ⟨k0, o0, a1, y.symm, a3⟩)
        · omega
    · rw [if_neg c1]
      obtain ⟨k0, o0, a1, a2, a3⟩ := (hc k (by omega)).mp c1
      have b1 := s7_num a1.1
      have b2 := s7_num a1.2.1
      have e1 : nI (k / 128) = k0 := by
        have : k / 128 = tN k0 := by unfold PLr at a2; omega
        rw [this]; exact b1.1.symm
      have e2 : nI (k % 128) = o0 := by
        have : k % 128 = tN o0 := by unfold PLr at a2; omega
        rw [this]; exact b2.1.symm
      rw [e1, e2]
      refine ⟨gr_01 _ _ _ _ _ i1, fun q hq => ?_⟩
      have g := gr_all (rA := rA) (rB := rB) (rF := rF) (rO := rO) (rT := rT) (rW := rW) (tA := tA) (ni := ni) (lc := lc) hp hD hH (show 1 ≤ h + 1 by omega) h2 a1 q p 0 (by omega) (fun _ => 7) (fun a ha => absurd ha (Nat.not_lt_zero _)) 0 (fun b hb => ⟨fun q => (by rw [b_0] at q; cases q), fun ⟨_, q, _⟩ => absurd q (Nat.not_lt_zero _)⟩) u
      have g : ¬ GRf (h + 1) i k0 lc ni o0 p rA rB rD rF rO rS rT rW tA p 0 0 0 u q = 0 ↔ ¬ u q = 0 ∨ ∃ r3 : Nat → Nat, RWp p (chX cA (F_X7_state k0 o0) (h + 1) zt) p r3 ∧ (∀ a : Nat, a < 0 → r3 a = 7) ∧ MKr p i ni (h + 1) zd tA k0 o0 q r3 := g
      rw [g, i2 q hq]
      constructor
      · rintro (⟨k1, o1, r, y1, y2, y3⟩ | ⟨r, y1, -, y3⟩)
        · exact ⟨k1, o1, r, y1, by omega, y3⟩
        · exact ⟨k0, o0, r, a1, by omega, a3, y1, y3⟩
      · rintro ⟨k1, o1, r, y1, y2, y3, y4, y5⟩
        by_cases y : PLr k1 o1 = k
        · obtain ⟨f1, f2⟩ := plr_inj y1.1 y1.2.1 a1.1 a1.2.1 (y.trans a2)
          subst f1
          subst f2
          exact Or.inr ⟨r, y4, fun a ha => absurd ha (Nat.not_lt_zero _), y5⟩
        · exact Or.inl ⟨k1, o1, r, y1, by omega, y3, y4, y5⟩
theorem nar_01 {v : Int32} (h : v = 0 ∨ v = 1) : vp_nar .boolean v = v := by
  rcases h with h | h <;> subst h <;> decide
theorem cp_all {c N : Nat → Int32} (hD : B01 (L4_X12_canBegin rD rS rA rB rF rT rW rO tA lc p i ni h c (L3_X12_canBegin N 16384) 16384)) : ∀ k : Nat, k ≤ 16384 → ((L5_X12_canBegin rD rS rA rB rF rT rW rO tA lc p i ni h c N 0 c k).1 = 0 ∨ (L5_X12_canBegin rD rS rA rB rF rT rW rO tA lc p i ni h c N 0 c k).1 = 1) ∧ (¬ (L5_X12_canBegin rD rS rA rB rF rT rW rO tA lc p i ni h c N 0 c k).1 = 0 ↔ ∃ q : Nat, q < k ∧ ¬ L4_X12_canBegin rD rS rA rB rF rT rW rO tA lc p i ni h c (L3_X12_canBegin N 16384) 16384 q = 0) ∧ ∀ q : Nat, q < k → (L5_X12_canBegin rD rS rA rB rF rT rW rO tA lc p i ni h c N 0 c k).2 q = L4_X12_canBegin rD rS rA rB rF rT rW rO tA lc p i ni h c (L3_X12_canBegin N 16384) 16384 q
  | 0, _ => ⟨Or.inl rfl, ⟨fun z => absurd rfl z, fun ⟨_, z, _⟩ => absurd z (Nat.not_lt_zero _)⟩, fun q z => absurd z (Nat.not_lt_zero _)⟩
  | k + 1, hk => by
    obtain ⟨i1, i2, i3⟩ := cp_all hD k (by omega)
    have e : L5_X12_canBegin rD rS rA rB rF rT rW rO tA lc p i ni h c N 0 c (k + 1) = L5_X12_canBegins rD rS rA rB rF rT rW rO tA lc p i ni h c N k (L5_X12_canBegin rD rS rA rB rF rT rW rO tA lc p i ni h c N 0 c k).1 (L5_X12_canBegin rD rS rA rB rF rT rW rO tA lc p i ni h c N 0 c k).2 := rfl
    rw [e]
    generalize L5_X12_canBegin rD rS rA rB rF rT rW rO tA lc p i ni h c N 0 c k = u at i1 i2 i3 ⊢
    unfold L5_X12_canBegins
    have hn := nar_01 (hD k (by omega))
    generalize L4_X12_canBegin rD rS rA rB rF rT rW rO tA lc p i ni h c (L3_X12_canBegin N 16384) 16384 = D at hn i2 i3 ⊢
    rw [hn, upd_eq]
    have hrow : ∀ q : Nat, q < k + 1 → upd u.2 k (D k) q = D q := fun q hq => by
      by_cases y : q = k
      · rw [y, upd_eq]
      · rw [upd_ne y]; exact i3 q (by omega)
    by_cases c1 : u.1 = 0
    · rw [if_pos c1]
      have hno : ∀ q : Nat, q < k → D q = 0 := fun q hq => Classical.byContradiction fun z => i2.mpr ⟨q, hq, z⟩ c1
      by_cases c2 : D k = 0
      · rw [if_pos c2]
        refine ⟨Or.inl rfl, ⟨fun z => absurd rfl z, fun ⟨q, z1, z2⟩ => absurd ?_ z2⟩, hrow⟩
        by_cases y : q = k
        · rw [y]; exact c2
        · exact hno q (by omega)
      · rw [if_neg c2]
        exact ⟨Or.inr rfl, ⟨fun _ => ⟨k, Nat.lt_succ_self _, c2⟩, fun _ => show ¬ (1 : Int32) = 0 by decide⟩, hrow⟩
    · rw [if_neg c1]
      obtain ⟨q, z1, z2⟩ := i2.mp c1
      exact ⟨Or.inr rfl, ⟨fun _ => ⟨q, by omega, z2⟩, fun _ => show ¬ (1 : Int32) = 0 by decide⟩, hrow⟩
theorem can_next (hp : p ≤ 7) (hD : rD i = zd) (hH : CHH p zt cA (rS (4 * i + ni)) (MCf rA rB rF rT rW rO lc i)) (h2 : h + 1 ≤ 24) (h0 : ∃ k o : Int32, GD2 zd k o ∧ x0 = F_X7_state k o) {c N : Nat → Int32} (hc : CANp p zd zt cA (fun o => F_X12_taleOf tA i ni o) x0 h c) : CANp p zd zt cA (fun o => F_X12_taleOf tA i ni o) x0 (h + 1) (L5_X12_canBegin rD rS rA rB rF rT rW rO tA lc p i ni h c N 0 c 16384).2 ∧ ((L5_X12_canBegin rD rS rA rB rF rT rW rO tA lc p i ni h c N 0 c 16384).1 = 0 ∨ (L5_X12_canBegin rD rS rA rB rF rT rW rO tA lc p i ni h c N 0 c 16384).1 = 1) ∧ (¬ (L5_X12_canBegin rD rS rA rB rF rT rW rO tA lc p i ni h c N 0 c 16384).1 = 0 ↔ ∃ y : Int32, WRx p zd zt cA (fun o => F_X12_taleOf tA i ni o) x0 (h + 1) y) := by
  obtain ⟨g1, g2⟩ := go_all (rA := rA) (rB := rB) (rF := rF) (rO := rO) (rT := rT) (rW := rW) (lc := lc) (D0 := L3_X12_canBegin N 16384) hp hD hH h2 hc (fun q hq => cl_0z 16384 q hq) 16384 (Nat.le_refl _)
  obtain ⟨c1, c2, c3⟩ := cp_all g1 16384 (Nat.le_refl _)
  have key : ∀ q : Nat, q < 16384 → (¬ L4_X12_canBegin rD rS rA rB rF rT rW rO tA lc p i ni h c (L3_X12_canBegin N 16384) 16384 q = 0 ↔ ∃ k o : Int32, GD2 zd k o ∧ q = PLr k o ∧ WRx p zd zt cA (fun o => F_X12_taleOf tA i ni o) x0 (h + 1) (F_X7_state k o)) := fun q hq => by
    rw [g2 q hq]
    constructor
    · rintro ⟨k0, o0, r, a1, -, a3, a4, a5, a6⟩
      obtain ⟨e1, e2⟩ := wr_step hp a1 a4
      refine ⟨_, _, e2, a6, _, r, a3, a4, e1.symm, ?_⟩
      rw [st_kn e2.1]
      exact a5
    · rintro ⟨k, o, a1, a2, x, r, a3, a4, a5, a6⟩
      obtain ⟨k0, o0, b1, b2⟩ := wr_gd hp h0 h x a3
      subst b2
      obtain ⟨e1, e2⟩ := wr_step hp b1 a4
      have e3 := a5.trans e1
      have ek : k = knR zd k0 o0 (rset r p) := by
        have := congrArg F_X7_knownIn e3
        rw [st_kn a1.1, st_kn e2.1] at this
        exact this
      have eo : o = onR zd k0 o0 (rset r p) := by
        have := congrArg F_X7_onceIn e3
        rw [st_on a1.1 a1.2.1, st_on e2.1 e2.2.1] at this
        exact this
      refine ⟨k0, o0, r, b1, plr_lt b1.1 b1.2.1, a3, a4, ?_, by rw [a2, ek, eo]⟩
      rw [st_kn a1.1, ek] at a6
      exact a6
  refine ⟨fun q hq => by rw [c3 q hq]; exact key q hq, c1, c2.trans ⟨?_, ?_⟩⟩
  · rintro ⟨q, hq, z⟩
    obtain ⟨k, o, -, -, w⟩ := (key q hq).mp z
    exact ⟨_, w⟩
  · rintro ⟨y, w⟩
    obtain ⟨k, o, a1, a2⟩ := wr_gd hp h0 (h + 1) y w
    subst a2
    exact ⟨PLr k o, plr_lt a1.1 a1.2.1, (key _ (plr_lt a1.1 a1.2.1)).mpr ⟨k, o, a1, rfl, w⟩⟩
theorem can_hours (hp : p ≤ 7) (hD : rD i = zd) (hH : CHH p zt cA (rS (4 * i + ni)) (MCf rA rB rF rT rW rO lc i)) (h0 : ∃ k o : Int32, GD2 zd k o ∧ x0 = F_X7_state k o) : ∀ (m h : Nat) (a4 : Int32) (c N : Nat → Int32), 24 < m + h → h ≤ 24 → CANp p zd zt cA (fun o => F_X12_taleOf tA i ni o) x0 h c → (a4 = 0 ∨ a4 = 1) → (¬ a4 = 0 ↔ ∃ y : Int32, WRx p zd zt cA (fun o => F_X12_taleOf tA i ni o) x0 h y) → (¬ (L2_X12_canBegin rD rS rA rB rF rT rW rO tA lc p i ni m h a4 c N).1 = 0 ↔ ∃ y : Int32, WRx p zd zt cA (fun o => F_X12_taleOf tA i ni o) x0 24 y)
  | 0, h, _, _, _, q, q2, _, _, _ => absurd q (by omega)
  | m + 1, h, a4, c, N, q, q2, hc, h4, hw => by
    rw [L2_X12_canBegin]
    by_cases c1 : (24 : Int32) < nI (h + 1)
    · rw [if_pos c1]
      have := (nI_ltI (a := 24) (b := h + 1) (by omega) (by omega)).mp c1
      have e : h = 24 := by omega
      rw [e] at hw
      rw [← hw, zb_of h4]
    · rw [if_neg c1]
      have h2 : h + 1 ≤ 24 := by
        by_cases z : h + 1 ≤ 24
        · exact z
        · exact absurd ((nI_ltI (a := 24) (b := h + 1) (by omega) (by omega)).mpr (by omega)) c1
      by_cases c2 : a4 = 0
      · rw [if_pos c2, zb_of h4]
        refine ⟨fun z => absurd c2 z, fun z => ?_⟩
        refine absurd c2 (hw.mpr (wr_back (24 - h) ?_))
        rw [show h + (24 - h) = 24 by omega]
        exact z
      · rw [if_neg c2]
        obtain ⟨g1, g2, g3⟩ := can_next (N := N) (rA := rA) (rB := rB) (rF := rF) (rO := rO) (rT := rT) (rW := rW) (lc := lc) hp hD hH h2 h0 hc
        exact can_hours hp hD hH h0 m (h + 1) _ _ _ (by omega) h2 g1 g2 g3
end

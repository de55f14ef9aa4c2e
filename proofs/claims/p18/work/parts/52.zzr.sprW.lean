/-! the least hours, as the reference finds them; and that both are the same -/
/-- the least number up to b with a property; 99 where there is none -/
def MV (P : Nat → Prop) (b : Nat) (v : Int32) : Prop := (v = 99 ∧ ∀ n : Nat, n ≤ b → ¬ P n) ∨ ∃ n : Nat, n ≤ b ∧ v = nI n ∧ P n ∧ ∀ k : Nat, k < n → ¬ P k
theorem MV.iff {P P2 : Nat → Prop} {b : Nat} {v : Int32} (h : MV P b v) (e : ∀ n : Nat, P n ↔ P2 n) : MV P2 b v := by
  rcases h with ⟨a1, a2⟩ | ⟨n, a1, a2, a3, a4⟩
  · exact Or.inl ⟨a1, fun n hn q => a2 n hn ((e n).mpr q)⟩
  · exact Or.inr ⟨n, a1, a2, (e n).mp a3, fun k hk q => a4 k hk ((e k).mpr q)⟩
theorem mv_lsa {P : Nat → Prop} {b : Nat} {v : Int32} (hb : b ≤ 24) (h : MV P b v) : LSA P b (if v = 99 then -1 else v) := by
  rcases h with ⟨a1, a2⟩ | ⟨n, a1, a2, a3, a4⟩
  · rw [if_pos a1]; exact Or.inl ⟨rfl, a2⟩
  · have hn : ¬ v = 99 := fun q => by
      rw [a2] at q
      have := (nI_eq (a := n) (b := 99) (by omega) (by omega)).mp q
      omega
    rw [if_neg hn]
    exact Or.inr ⟨n, a1, a2, a3, a4⟩
theorem mv_mn {P P2 : Nat → Prop} {b : Nat} {x y : Int32} (hb : b ≤ 24) (h : MV P b x) (h2 : MV P2 b y) : MV (fun n => P n ∨ P2 n) b (mn2 x y) := by
  have lt : ∀ n : Nat, n ≤ b → nI n < 99 := fun n hn => (nI_ltI (a := n) (b := 99) (by omega) (by omega)).mpr (by omega)
  have nl : ∀ n : Nat, n ≤ b → ¬ (99 : Int32) < nI n := fun n hn q => by
    have := (nI_ltI (a := 99) (b := n) (by omega) (by omega)).mp q
    omega
  unfold mn2
  rcases h with ⟨a1, a2⟩ | ⟨n, a1, a2, a3, a4⟩
  · rcases h2 with ⟨b1, b2⟩ | ⟨m, b1, b2, b3, b4⟩
    · rw [a1, b1, if_neg (show ¬ (99 : Int32) < 99 from by decide)]
      exact Or.inl ⟨rfl, fun n hn q => q.elim (a2 n hn) (b2 n hn)⟩
    · rw [a1, b2, if_pos (lt m b1)]
      exact Or.inr ⟨m, b1, rfl, Or.inr b3, fun k hk q => q.elim (a2 k (by omega)) (b4 k hk)⟩
  · rcases h2 with ⟨b1, b2⟩ | ⟨m, b1, b2, b3, b4⟩
    · rw [a2, b1, if_neg (nl n a1)]
      exact Or.inr ⟨n, a1, rfl, Or.inl a3, fun k hk q => q.elim (a4 k hk) (b2 k (by omega))⟩
    · rw [a2, b2]
      by_cases c : nI m < nI n
      · have hl := (nI_ltI (a := m) (b := n) (by omega) (by omega)).mp c
        rw [if_pos c]
        exact Or.inr ⟨m, b1, rfl, Or.inr b3, fun k hk q => q.elim (a4 k (by omega)) (b4 k hk)⟩
      · have hl : ¬ m < n := fun z => c ((nI_ltI (a := m) (b := n) (by omega) (by omega)).mpr z)
        rw [if_neg c]
        exact Or.inr ⟨n, a1, rfl, Or.inl a3, fun k hk q => q.elim (a4 k hk) (b4 k (by omega))⟩
theorem mv_0 {P P2 : Nat → Prop} {b : Nat} {x : Int32} (h : MV P b x) (h0 : x = 0) (hb : b ≤ 24) (e : ∀ n : Nat, P n → P2 n) : MV P2 b 0 := by
  rcases h with ⟨a1, _⟩ | ⟨n, a1, a2, a3, _⟩
  · rw [h0] at a1; exact absurd a1 (by decide)
  · rw [h0] at a2
    have hn : n = 0 := ((nI_eq (a := 0) (b := n) (by omega) (by omega)).mp a2).symm
    rw [hn] at a3
    exact Or.inr ⟨0, Nat.zero_le _, rfl, e 0 a3, fun k hk => absurd hk (Nat.not_lt_zero _)⟩
theorem mv_le0 {P : Nat → Prop} {b : Nat} {x : Int32} (hb : b ≤ 24) (h : MV P b x) (h0 : x ≤ 0) : x = 0 := by
  rcases h with ⟨a1, _⟩ | ⟨n, a1, a2, _, _⟩
  · rw [a1] at h0; exact absurd h0 (by decide)
  · rw [a2] at h0 ⊢
    have := (nI_leI (a := n) (b := 0) (by omega) (by omega)).mp h0
    have e : n = 0 := by omega
    rw [e]; rfl
theorem shrb_1 {x : Int32} {b : Nat} (hb : b < 32) : (x >>> (nI b &&& 31)) &&& 1 = 1 ↔ bt x b = true := by
  rw [and1_1, b_sshr b hb x (by omega), if_pos (by omega), Nat.add_zero]
/-- who takes part in a row's calls so far -/
def BU (bu : Int32) (r : Nat → Nat) (j : Nat) : Prop := ∀ b : Nat, b < 32 → (bt bu b = true ↔ ∃ a : Nat, a < j ∧ ¬ r a = 7 ∧ (a = b ∨ r a = b))
theorem BU.still {bu : Int32} {r : Nat → Nat} {j : Nat} (h : BU bu r j) : BU bu (rput r j 7) (j + 1) := fun b hb => by
  rw [h b hb]
  constructor
  · rintro ⟨a, ha, q1, q2⟩
    exact ⟨a, by omega, by rw [rput_lt a ha]; exact q1, by rw [rput_lt a ha]; exact q2⟩
  · rintro ⟨a, ha, q1, q2⟩
    by_cases e : a = j
    · rw [e, rput_eq] at q1; exact absurd rfl q1
    · rw [rput_ne e] at q1 q2
      exact ⟨a, by omega, q1, q2⟩
theorem BU.call {bu : Int32} {r : Nat → Nat} {j x : Nat} (hj : j < 32) (hx : x < 7) (h : BU bu r j) : BU ((bu ||| ((1 : Int32) <<< (nI j &&& 31))) ||| ((1 : Int32) <<< (nI x &&& 31))) (rput r j x) (j + 1) := fun b hb => by
  rw [b_orsh (by omega) hb, b_orsh hj hb, h b hb]
  constructor
  · rintro ((⟨a, ha, q1, q2⟩ | e) | e)
    · exact ⟨a, by omega, by rw [rput_lt a ha]; exact q1, by rw [rput_lt a ha]; exact q2⟩
    · exact ⟨j, by omega, by rw [rput_eq]; omega, Or.inl e.symm⟩
    · exact ⟨j, by omega, by rw [rput_eq]; omega, Or.inr (by rw [rput_eq]; exact e.symm)⟩
  · rintro ⟨a, ha, q1, q2⟩
    by_cases e : a = j
    · rw [e, rput_eq] at q2
      rcases q2 with q2 | q2
      · exact Or.inl (Or.inr q2.symm)
      · exact Or.inr q2.symm
    · rw [rput_ne e] at q1 q2
      exact Or.inl (Or.inl ⟨a, by omega, q1, q2⟩)
section
variable {p b : Nat} {ch : Nat → Int32} {kw an oz : Int32} {rD : Nat → Int32} {i : Nat} {MC : Nat → Nat → Int32} {ND : NDT} {T : Nat → Int32 → Prop} {Mm : (Nat → Int32) → Prop}
/-- whom one may call in a row, as the reference looks at it -/
def CHK (p : Nat) (ch : Nat → Int32) (kw an : Int32) (MC : Nat → Nat → Int32) : Prop := ∀ a c : Nat, a < p → c < p → (bt (ch a) c = true ↔ bt kw a = true ∧ bt an a = false ∧ ¬ MC a c = 0 ∧ bt an c = false ∧ bt kw c = false)
theorem tr_loop (hp : p ≤ 7) (hb : b ≤ 24) (hch : CHK p ch kw an MC) {fj : Nat} (hfj : fj < p) {r : Nat → Nat} (hr : RWp p ch fj r) {bu : Int32} (hbu : BU bu r fj) (hk : bt kw fj = true) (hn : bt an fj = false) {R : RTT}
    (hR : ∀ r2 : Nat → Nat, RWp p ch (fj + 1) r2 → ∀ bu : Int32, BU bu r2 (fj + 1) → ∀ gN : Nat → Int32, Mm gN → MV (fun n => ∃ r3 : Nat → Nat, RWp p ch p r3 ∧ (∀ a : Nat, a < fj + 1 → r3 a = r2 a) ∧ T n (rset r3 p)) b (R (fj + 1) bu (rset r2 (fj + 1)) gN).1 ∧ Mm (R (fj + 1) bu (rset r2 (fj + 1)) gN).2) :
    ∀ (m j : Nat) (x7 : Int32) (gN : Nat → Int32), p < m + j → j ≤ p → MV (fun n => ∃ r3 : Nat → Nat, RWp p ch p r3 ∧ (∀ a : Nat, a < fj → r3 a = r a) ∧ r3 fj < j ∧ T n (rset r3 p)) b x7 → Mm gN →
      MV (fun n => ∃ r3 : Nat → Nat, RWp p ch p r3 ∧ (∀ a : Nat, a < fj → r3 a = r a) ∧ T n (rset r3 p)) b (L1_X12_tryRow an p kw fj bu (rset r fj) MC R m j x7 gN).1 ∧ Mm (L1_X12_tryRow an p kw fj bu (rset r fj) MC R m j x7 gN).2
  | 0, j, _, _, h, h2, _, _ => absurd h (by omega)
  | m + 1, j, x7, gN, h, h2, hm, hM => by
    rw [L1_X12_tryRow]
    have tail0 : x7 = 0 → MV (fun n => ∃ r3 : Nat → Nat, RWp p ch p r3 ∧ (∀ a : Nat, a < fj → r3 a = r a) ∧ T n (rset r3 p)) b 0 := fun q => mv_0 hm q hb fun n ⟨r3, a1, a2, _, a4⟩ => ⟨r3, a1, a2, a4⟩
    by_cases c1 : nI p ≤ nI j
    · rw [if_pos c1]
      have hj : j = p := by
        have := (nI_leI (a := p) (b := j) (by omega) (by omega)).mp c1
        omega
      by_cases c2 : x7 = 0
      · rw [if_pos c2]; exact ⟨tail0 c2, hM⟩
      · rw [if_neg c2]
        obtain ⟨g1, g2⟩ := hR (rput r fj 7) hr.still bu hbu.still gN hM
        rw [rset_still] at g1 g2
        refine ⟨(mv_mn hb hm g1).iff fun n => ?_, g2⟩
        constructor
        · rintro (⟨r3, a1, a2, -, a4⟩ | ⟨r3, a1, a2, a4⟩)
          · exact ⟨r3, a1, a2, a4⟩
          · exact ⟨r3, a1, fun a ha => (a2 a (by omega)).trans (rput_lt a ha), a4⟩
        · rintro ⟨r3, a1, a2, a4⟩
          rcases a1 fj hfj with z | ⟨z, -, -⟩
          · refine Or.inr ⟨r3, a1, fun a ha => ?_, a4⟩
            by_cases y : a = fj
            · rw [y, rput_eq]; exact z
            · rw [rput_ne y]; exact a2 a (by omega)
          · exact Or.inl ⟨r3, a1, a2, by rw [hj]; exact z, a4⟩
    · rw [if_neg c1]
      have hj : j < p := by
        have z : ¬ p ≤ j := fun z => c1 ((nI_leI (by omega) (by omega)).mpr z)
        omega
      by_cases c2 : x7 ≤ 0
      · have e0 := mv_le0 hb hm c2
        rw [if_pos c2, if_pos e0]
        exact ⟨tail0 e0, hM⟩
      · rw [if_neg c2]
        have skip : (∀ r3 : Nat → Nat, RWp p ch p r3 → (∀ a : Nat, a < fj → r3 a = r a) → ¬ r3 fj = j) → MV (fun n => ∃ r3 : Nat → Nat, RWp p ch p r3 ∧ (∀ a : Nat, a < fj → r3 a = r a) ∧ r3 fj < j + 1 ∧ T n (rset r3 p)) b x7 := fun hno => hm.iff fun n => by
          constructor
          · rintro ⟨r3, a1, a2, a3, a4⟩
            exact ⟨r3, a1, a2, by omega, a4⟩
          · rintro ⟨r3, a1, a2, a3, a4⟩
            have := hno r3 a1 a2
            exact ⟨r3, a1, a2, by omega, a4⟩
        have hbt : ∀ r3 : Nat → Nat, RWp p ch p r3 → r3 fj = j → bt (ch fj) j = true ∧ ∀ c : Nat, c < fj → ¬ r3 c = j := fun r3 a1 e => by
          rcases a1 fj hfj with z | ⟨_, z2, z3⟩
          · omega
          · rw [e] at z2 z3
            exact ⟨z2, z3⟩
        by_cases c3 : nI j = nI fj
        · rw [if_pos c3]
          have e := (nI_eq (a := j) (b := fj) (by omega) (by omega)).mp c3
          refine tr_loop hp hb hch hfj hr hbu hk hn hR m (j + 1) x7 gN (by omega) (by omega) (skip fun r3 a1 a2 q => ?_) hM
          have := ((hch fj j hfj hj).mp (hbt r3 a1 q).1).2.2.2.2
          rw [e, hk] at this; cases this
        · rw [if_neg c3]
          by_cases c4 : (((bu ||| an) ||| kw) >>> (nI j &&& 31)) &&& (1 : Int32) = 1
          · rw [if_pos c4]
            refine tr_loop hp hb hch hfj hr hbu hk hn hR m (j + 1) x7 gN (by omega) (by omega) (skip fun r3 a1 a2 q => ?_) hM
            have z := (shrb_1 (by omega)).mp c4
            rw [b_or, b_or, Bool.or_eq_true, Bool.or_eq_true] at z
            obtain ⟨y1, y2⟩ := hbt r3 a1 q
            obtain ⟨-, -, -, y3, y4⟩ := (hch fj j hfj hj).mp y1
            rcases z with (z | z) | z
            · obtain ⟨a, ha, w1, w2⟩ := (hbu j (by omega)).mp z
              rcases w2 with w2 | w2
              · rcases hr a ha with w3 | ⟨w3, w4, -⟩
                · exact w1 w3
                · have := ((hch a (r a) (by omega) w3).mp w4).1
                  rw [w2, y4] at this; cases this
              · exact y2 a ha (by rw [a2 a ha]; exact w2)
            · rw [y3] at z; cases z
            · rw [y4] at z; cases z
          · rw [if_neg c4]
            by_cases c5 : MC fj j = 0
            · rw [if_pos c5]
              refine tr_loop hp hb hch hfj hr hbu hk hn hR m (j + 1) x7 gN (by omega) (by omega) (skip fun r3 a1 a2 q => ?_) hM
              exact ((hch fj j hfj hj).mp (hbt r3 a1 q).1).2.2.1 c5
            · rw [if_neg c5]
              have z : ¬ (bt bu j = true ∨ bt an j = true ∨ bt kw j = true) := fun z => c4 ((shrb_1 (by omega)).mpr (by
                rw [b_or, b_or, Bool.or_eq_true, Bool.or_eq_true]
                rcases z with z | z | z
                · exact Or.inl (Or.inl z)
                · exact Or.inl (Or.inr z)
                · exact Or.inr z))
              have f0 : ∀ {x : Bool}, ¬ x = true → x = false := fun {x} q => by cases x with | false => rfl | true => exact absurd rfl q
              have hcj : bt (ch fj) j = true := (hch fj j hfj hj).mpr ⟨hk, hn, c5, f0 fun q => z (Or.inr (Or.inl q)), f0 fun q => z (Or.inr (Or.inr q))⟩
              have hnc : ∀ c : Nat, c < fj → ¬ r c = j := fun c hc q => z (Or.inl ((hbu j (by omega)).mpr ⟨c, hc, by omega, Or.inr q⟩))
              have hj7 : ¬ j = 7 := by omega
              obtain ⟨g1, g2⟩ := hR (rput r fj j) (hr.call hj hcj hnc) _ (hbu.call (by omega) (by omega)) gN hM
              rw [rset_call hj7] at g1 g2
              refine tr_loop hp hb hch hfj hr hbu hk hn hR m (j + 1) _ _ (by omega) (by omega) ((mv_mn hb hm g1).iff fun n => ?_) g2
              constructor
              · rintro (⟨r3, a1, a2, a3, a4⟩ | ⟨r3, a1, a2, a4⟩)
                · exact ⟨r3, a1, a2, by omega, a4⟩
                · refine ⟨r3, a1, fun a ha => (a2 a (by omega)).trans (rput_lt a ha), ?_, a4⟩
                  rw [a2 fj (by omega), rput_eq]
                  omega
              · rintro ⟨r3, a1, a2, a3, a4⟩
                by_cases y : r3 fj = j
                · refine Or.inr ⟨r3, a1, fun a ha => ?_, a4⟩
                  by_cases w : a = fj
                  · rw [w, rput_eq]; exact y
                  · rw [rput_ne w]; exact a2 a (by omega)
                · exact Or.inl ⟨r3, a1, a2, by omega, a4⟩
theorem mv_none {b : Nat} {P : Nat → Prop} (h : ∀ n : Nat, ¬ P n) : MV P b 99 := Or.inl ⟨rfl, fun n _ => h n⟩
theorem tr_MV (hp : p ≤ 7) (hb : b ≤ 24) (hch : CHK p ch kw an MC) (hleaf : ∀ r2 : Nat → Nat, RWp p ch p r2 → ∀ gN : Nat → Int32, Mm gN → MV (fun n => T n (rset r2 p)) b (F_X12_tryRowL rD gN i kw oz (rset r2 p) ND).1 ∧ Mm (F_X12_tryRowL rD gN i kw oz (rset r2 p) ND).2) :
    ∀ f fj : Nat, fj + f = p → ∀ r : Nat → Nat, RWp p ch fj r → ∀ bu : Int32, BU bu r fj → ∀ gN : Nat → Int32, Mm gN → MV (fun n => ∃ r3 : Nat → Nat, RWp p ch p r3 ∧ (∀ a : Nat, a < fj → r3 a = r a) ∧ T n (rset r3 p)) b (TR an rD i p kw oz MC ND f fj bu (rset r fj) gN).1 ∧ Mm (TR an rD i p kw oz MC ND f fj bu (rset r fj) gN).2
  | 0, fj, e, r, hr, bu, hbu, gN, hM => by
    have e2 : fj = p := by omega
    rw [e2] at hr ⊢
    obtain ⟨g1, g2⟩ := hleaf r hr gN hM
    refine ⟨MV.iff (show MV _ b _ from g1) fun n => ⟨fun q => ⟨r, hr, fun _ _ => rfl, q⟩, fun ⟨r3, _, a2, a4⟩ => ?_⟩, g2⟩
    rw [rset_cong p a2] at a4
    exact a4
  | f + 1, fj, e, r, hr, bu, hbu, gN, hM => by
    have hfj : fj < p := by omega
    have hR := fun r2 hr2 bu hbu gN hM => tr_MV hp hb hch hleaf f (fj + 1) (by omega) r2 hr2 bu hbu gN hM
    have eT : TR an rD i p kw oz MC ND (f + 1) fj bu (rset r fj) gN = F_X12_tryRow an rD gN i p kw oz fj bu (rset r fj) MC ND (TR an rD i p kw oz MC ND f) := rfl
    rw [eT]
    unfold F_X12_tryRow
    have c0 : ¬ nI fj = nI p := fun q => by
      have := (nI_eq (a := fj) (b := p) (by omega) (by omega)).mp q
      omega
    rw [if_neg c0]
    have nocall : (∀ c : Nat, c < p → ¬ bt (ch fj) c = true) → MV (fun n => ∃ r3 : Nat → Nat, RWp p ch p r3 ∧ (∀ a : Nat, a < fj → r3 a = r a) ∧ T n (rset r3 p)) b (mn2 99 (TR an rD i p kw oz MC ND f (fj + 1) bu (rset r fj) gN).1) ∧ Mm (TR an rD i p kw oz MC ND f (fj + 1) bu (rset r fj) gN).2 := fun hno => by
      obtain ⟨g1, g2⟩ := hR (rput r fj 7) hr.still bu hbu.still gN hM
      rw [rset_still] at g1 g2
      refine ⟨(mv_mn hb (mv_none (P := fun _ => False) (fun _ q => q)) g1).iff fun n => ?_, g2⟩
      constructor
      · rintro (q | ⟨r3, a1, a2, a4⟩)
        · exact q.elim
        · exact ⟨r3, a1, fun a ha => (a2 a (by omega)).trans (rput_lt a ha), a4⟩
      · rintro ⟨r3, a1, a2, a4⟩
        refine Or.inr ⟨r3, a1, fun a ha => ?_, a4⟩
        by_cases y : a = fj
        · rw [y, rput_eq]
          rcases a1 fj hfj with z | ⟨z, z2, -⟩
          · exact z
          · exact absurd z2 (hno _ z)
        · rw [rput_ne y]; exact a2 a (by omega)
    by_cases c1 : (kw >>> (nI fj &&& 31)) &&& (1 : Int32) = 1
    · rw [if_pos c1]
      have hk := (shrb_1 (by omega)).mp c1
      by_cases c2 : (an >>> (nI fj &&& 31)) &&& (1 : Int32) = 0
      · rw [if_pos c2]
        have hn := (shr_0 (by omega)).mp c2
        by_cases c3 : (bu >>> (nI fj &&& 31)) &&& (1 : Int32) = 0
        · rw [if_pos c3]
          exact tr_loop hp hb hch hfj hr hbu hk hn hR (p + 1) 0 99 gN (by omega) (Nat.zero_le _) (mv_none fun n ⟨_, _, _, q, _⟩ => absurd q (Nat.not_lt_zero _)) hM
        · exfalso
          have hbf : bt bu fj = true := by
            cases q : bt bu fj with
            | true => rfl
            | false => exact absurd ((shr_0 (by omega)).mpr q) c3
          obtain ⟨a, ha, w1, w2⟩ := (hbu fj (by omega)).mp hbf
          rcases w2 with w2 | w2
          · omega
          · rcases hr a ha with w3 | ⟨w3, w4, -⟩
            · exact w1 w3
            · have := ((hch a (r a) (by omega) w3).mp w4).2.2.2.2
              rw [w2, hk] at this; cases this
      · rw [if_neg c2]
        refine nocall fun c hc q => c2 ((shr_0 (by omega)).mpr ((hch fj c hfj hc).mp q).2.1)
    · rw [if_neg c1]
      refine nocall fun c hc q => c1 ((shrb_1 (by omega)).mpr ((hch fj c hfj hc).mp q).1)
end
/-! hours by any rows -/
section
variable (p : Nat) (zd zt zm : Int32) (cA : Nat → Int32)
def DN : Nat → Nat → Int32 → Prop
  | 0, _, x => ¬ F_X7_isDone zm (F_X7_knownIn x) = 0
  | n + 1, h, x => ∃ r : Nat → Nat, RWp p (chX cA x h zt) p r ∧ DN n (h + 1) (F_X7_stateAfter zd x (rset r p))
/-- a state as the reference has it: told once are deaf ones alone -/
def GD2 (zd k o : Int32) : Prop := s7 k ∧ s7 o ∧ k &&& o = 0 ∧ ∀ i : Nat, i < 32 → bt o i = true → bt zd i = true
def MEMO (gN : Nat → Int32) : Prop := ∀ (h : Nat) (k o : Int32), 1 ≤ h → h ≤ 24 → GD2 zd k o → gN (16384 * h + 128 * tN k + tN o) = 0 ∨ MV (fun n => DN p zd zt zm cA n h (F_X7_state k o)) (25 - h) (gN (16384 * h + 128 * tN k + tN o))
end
section
variable {p : Nat} {zd zt zm : Int32} {cA : Nat → Int32}
theorem aft_ref {k o C : Int32} (hg : GD2 zd k o) (hC : s7 C) (hd : ∀ i : Nat, i < 32 → bt C i = true → bt k i = false) : F_X7_stateAfter zd (F_X7_state k o) C = F_X7_state (k ||| ((C &&& (k ^^^ (-1 : Int32))) &&& ((zd ^^^ (-1 : Int32)) ||| o))) (((o ||| (C &&& (k ^^^ (-1 : Int32)))) &&& zd) &&& ((k ||| ((C &&& (k ^^^ (-1 : Int32))) &&& ((zd ^^^ (-1 : Int32)) ||| o))) ^^^ (-1 : Int32))) ∧ GD2 zd (k ||| ((C &&& (k ^^^ (-1 : Int32))) &&& ((zd ^^^ (-1 : Int32)) ||| o))) (((o ||| (C &&& (k ^^^ (-1 : Int32)))) &&& zd) &&& ((k ||| ((C &&& (k ^^^ (-1 : Int32))) &&& ((zd ^^^ (-1 : Int32)) ||| o))) ^^^ (-1 : Int32))) := by
  obtain ⟨hk, ho, hko, hod⟩ := hg
  have e1 : C &&& (k ^^^ (-1 : Int32)) = C := b_ext fun i hi => by
    rw [b_and, b_nt _ hi]
    cases q : bt C i with
    | false => rfl
    | true => rw [hd i hi q]; rfl
  rw [e1]
  have eK : k ||| (C &&& F_X7_understands zd (F_X7_state k o)) = k ||| (C &&& ((zd ^^^ (-1 : Int32)) ||| o)) := by
    unfold F_X7_understands
    rw [st_on hk ho]
  refine ⟨?_, s7_or hk (s7_al hC), s7_al (s7_al (s7_or ho hC)), ?_, fun i hi q => ?_⟩
  · unfold F_X7_stateAfter
    rw [st_kn hk, st_on hk ho, eK]
    refine congrArg _ (b_ext fun i hi => ?_)
    rw [b_and, b_and, b_and, b_or, b_nt _ hi, b_or, b_and, b_or, b_nt _ hi]
    have h1 := hod i hi
    revert h1
    cases bt o i <;> cases bt C i <;> cases bt k i <;> cases bt zd i <;> simp
  · refine b_ext fun i hi => ?_
    rw [b_and, b_and, b_nt _ hi, b_0]
    cases bt (k ||| (C &&& ((zd ^^^ (-1 : Int32)) ||| o))) i <;> simp
  · rw [b_and, b_and, Bool.and_eq_true, Bool.and_eq_true] at q
    exact q.1.2
theorem bnd_byte : ∀ n : Nat, n < 25 → vp_nar .byte ((mn2 (99 : Int32) (nI n + 1)).toInt8.toInt32) = nI (n + 1) := by decide +kernel
theorem bnd_99 : vp_nar .byte ((mn2 (99 : Int32) (99 : Int32)).toInt8.toInt32) = 99 := by decide +kernel
theorem memo_put {gN : Nat → Int32} {h : Nat} {k o v : Int32} (hg : GD2 zd k o) (hM : MEMO p zd zt zm cA gN) (hv : MV (fun n => DN p zd zt zm cA n h (F_X7_state k o)) (25 - h) v) : MEMO p zd zt zm cA (upd gN (16384 * h + 128 * tN k + tN o) v) := fun h2 k2 o2 a1 a2 hg2 => by
  have b1 := (s7_num hg.1).2
  have b2 := (s7_num hg.2.1).2
  have b3 := (s7_num hg2.1).2
  have b4 := (s7_num hg2.2.1).2
  by_cases e : 16384 * h2 + 128 * tN k2 + tN o2 = 16384 * h + 128 * tN k + tN o
  · have q1 : h2 = h := by omega
    have q2 : tN k2 = tN k := by omega
    have q3 : tN o2 = tN o := by omega
    rw [e, upd_eq, q1, s7_eq hg2.1 hg.1 q2, s7_eq hg2.2.1 hg.2.1 q3]
    exact Or.inr hv
  · rw [upd_ne e]
    exact hM h2 k2 o2 a1 a2 hg2
/-- what the reference's look at a row says: the class's choices -/
def CHH (p : Nat) (zt : Int32) (cA : Nat → Int32) (an : Int32) (MCh : Nat → Nat → Nat → Int32) : Prop := ∀ h a c : Nat, 1 ≤ h → h ≤ 24 → a < p → c < p → (bt (cA (h * 7 + a)) c = true ∧ bt zt c = true ↔ bt an a = false ∧ ¬ MCh h a c = 0 ∧ bt an c = false)
theorem chk_of {an : Int32} {MCh : Nat → Nat → Nat → Int32} (hp : p ≤ 7) (hH : CHH p zt cA an MCh) {h : Nat} (h1 : 1 ≤ h) (h2 : h ≤ 24) {k o : Int32} (hk : s7 k) : CHK p (chX cA (F_X7_state k o) h zt) k an (MCh h) := fun a c ha hc => by
  unfold chX
  rw [st_kn hk]
  have hH2 := hH h a c h1 h2 ha hc
  by_cases q : hasv k (nI a) = 0
  · rw [if_pos q, b_0]
    have e : bt k a = false := (hvb_0 (by omega)).mp q
    constructor
    · intro z; cases z
    · rintro ⟨z, -⟩
      rw [e] at z; cases z
  · rw [if_neg q, b_and, b_and, b_nt _ (by omega), Bool.and_eq_true, Bool.and_eq_true, Bool.not_eq_true', hH2]
    have e : bt k a = true := (bt_hasv (by omega)).mp q
    constructor
    · rintro ⟨⟨z1, z2, z3⟩, z4⟩
      exact ⟨e, z1, z2, z3, z4⟩
    · rintro ⟨-, z1, z2, z3, z4⟩
      exact ⟨⟨z1, z2, z3⟩, z4⟩
theorem nd_MV {an : Int32} {rD : Nat → Int32} {i : Nat} {MCh : Nat → Nat → Nat → Int32} (hp : p ≤ 7) (hD : rD i = zd) (hH : CHH p zt cA an MCh) : ∀ f : Nat, f ≤ 24 → ∀ (k o : Int32) (gN : Nat → Int32), GD2 zd k o → MEMO p zd zt zm cA gN → MV (fun n => DN p zd zt zm cA n (25 - f) (F_X7_state k o)) f (NDf zm an rD i p MCh f k o gN).1 ∧ MEMO p zd zt zm cA (NDf zm an rD i p MCh f k o gN).2
  | 0, _, k, o, gN, hg, hM => by
    have hd0 : DN p zd zt zm cA 0 (25 - 0) (F_X7_state k o) ↔ zm &&& (k ^^^ (-1 : Int32)) = 0 := by
      show ¬ F_X7_isDone zm (F_X7_knownIn (F_X7_state k o)) = 0 ↔ _
      rw [st_kn hg.1]
      exact done_iff
    show MV _ 0 (F_X12_needed25 zm gN k).1 ∧ MEMO p zd zt zm cA (F_X12_needed25 zm gN k).2
    unfold F_X12_needed25
    by_cases c : zm &&& (k ^^^ (-1 : Int32)) = 0
    · rw [if_pos c]
      exact ⟨Or.inr ⟨0, Nat.le_refl _, rfl, hd0.mpr c, fun _ h => absurd h (Nat.not_lt_zero _)⟩, hM⟩
    · rw [if_neg c]
      refine ⟨Or.inl ⟨rfl, fun n hn => ?_⟩, hM⟩
      obtain rfl : n = 0 := by omega
      exact fun q => c (hd0.mp q)
  | f + 1, hf, k, o, gN, hg, hM => by
    have eh : 25 - (f + 1) = 24 - f := by omega
    rw [eh]
    have hd0 : DN p zd zt zm cA 0 (24 - f) (F_X7_state k o) ↔ zm &&& (k ^^^ (-1 : Int32)) = 0 := by
      show ¬ F_X7_isDone zm (F_X7_knownIn (F_X7_state k o)) = 0 ↔ _
      rw [st_kn hg.1]
      exact done_iff
    have hrows := tr_MV (p := p) (b := f) (ch := chX cA (F_X7_state k o) (24 - f) zt) (kw := k) (an := an) (oz := o) (rD := rD) (i := i) (MC := MCh (24 - f)) (ND := NDf zm an rD i p MCh f) (T := fun n C => DN p zd zt zm cA n (24 - f + 1) (F_X7_stateAfter zd (F_X7_state k o) C)) (Mm := MEMO p zd zt zm cA) hp (by omega) (chk_of hp hH (by omega) (by omega) hg.1) (fun r2 hr2 gN hM => by
      have hC : s7 (rset r2 p) := rset_7 fun a ha => hr2.le hp ha
      have hdj : ∀ i : Nat, i < 32 → bt (rset r2 p) i = true → bt k i = false := fun i hi q => by
        obtain ⟨a, ha, e1, e2⟩ := (rset_bit p (fun a ha => hr2.le hp ha) i hi).mp q
        rcases hr2 a ha with z | ⟨z1, z2, -⟩
        · exact absurd z e2
        · have := ((chk_of hp hH (by omega) (by omega) hg.1 a (r2 a) ha z1).mp z2).2.2.2.2
          rw [e1] at this
          exact this
      obtain ⟨q1, q2⟩ := aft_ref hg hC hdj
      have q3 := nd_MV hp hD hH f (by omega) _ _ gN q2 hM
      rw [← q1, show 25 - f = 24 - f + 1 by omega] at q3
      unfold F_X12_tryRowL
      rw [hD]
      exact q3) p 0 (by omega) (fun _ => 7) (fun a ha => absurd ha (Nat.not_lt_zero _)) 0 (fun b hb => ⟨fun q => (by rw [b_0] at q; cases q), fun ⟨_, q, _⟩ => absurd q (Nat.not_lt_zero _)⟩) gN hM
    have hS : ∀ n : Nat, (∃ r3 : Nat → Nat, RWp p (chX cA (F_X7_state k o) (24 - f) zt) p r3 ∧ (∀ a : Nat, a < 0 → r3 a = (fun _ => 7) a) ∧ DN p zd zt zm cA n (24 - f + 1) (F_X7_stateAfter zd (F_X7_state k o) (rset r3 p))) ↔ DN p zd zt zm cA (n + 1) (24 - f) (F_X7_state k o) := fun n => ⟨fun ⟨r3, a1, _, a3⟩ => ⟨r3, a1, a3⟩, fun ⟨r3, a1, a3⟩ => ⟨r3, a1, fun a ha => absurd ha (Nat.not_lt_zero _), a3⟩⟩
    obtain ⟨w1, w2⟩ := hrows
    have w3 := w1.iff hS
    have eN : NDf zm an rD i p MCh (f + 1) k o gN = F_X12_needed zm gN (24 - f) k o (fun N => TR an rD i p k o (MCh (24 - f)) (NDf zm an rD i p MCh f) p 0 0 0 N) := rfl
    rw [eN]
    unfold F_X12_needed
    try dsimp only
    by_cases c : zm &&& (k ^^^ (-1 : Int32)) = 0
    · rw [if_pos c]
      exact ⟨Or.inr ⟨0, Nat.zero_le _, rfl, hd0.mpr c, fun _ h => absurd h (Nat.not_lt_zero _)⟩, hM⟩
    · rw [if_neg c]
      have c2 : nI (24 - f) ≤ 24 := (nI_leI (a := 24 - f) (b := 24) (by omega) (by omega)).mpr (by omega)
      rw [if_pos c2]
      by_cases c3 : gN (16384 * (24 - f) + 128 * tN k + tN o) = 0
      · rw [if_pos c3]
        change MV _ f (TR an rD i p k o (MCh (24 - f)) (NDf zm an rD i p MCh f) p 0 0 0 gN).1 at w3
        change MEMO p zd zt zm cA (TR an rD i p k o (MCh (24 - f)) (NDf zm an rD i p MCh f) p 0 0 0 gN).2 at w2
        have e25 : 25 - (24 - f) = f + 1 := by omega
        rcases w3 with ⟨v1, v2⟩ | ⟨n, v1, v2, v3, v4⟩
        · rw [if_pos (show (99 : Int32) ≤ (TR an rD i p k o (MCh (24 - f)) (NDf zm an rD i p MCh f) p 0 0 0 gN).1 from Int32.not_lt.mp fun q => by rw [v1] at q; exact absurd q (by decide)), bnd_99]
          have hv : MV (fun n => DN p zd zt zm cA n (24 - f) (F_X7_state k o)) (f + 1) 99 := Or.inl ⟨rfl, fun n hn => by
            cases n with
            | zero => exact fun q => c (hd0.mp q)
            | succ n => exact v2 n (by omega)⟩
          refine ⟨?_, memo_put hg w2 (by rw [e25]; exact hv)⟩
          rw [upd_eq]; exact hv
        · have hn99 : ¬ (99 : Int32) ≤ (TR an rD i p k o (MCh (24 - f)) (NDf zm an rD i p MCh f) p 0 0 0 gN).1 := fun q => by
            rw [v2] at q
            have := (nI_leI (a := 99) (b := n) (by omega) (by omega)).mp q
            omega
          rw [if_neg hn99, v2, bnd_byte n (by omega)]
          have hv : MV (fun n => DN p zd zt zm cA n (24 - f) (F_X7_state k o)) (f + 1) (nI (n + 1)) := Or.inr ⟨n + 1, by omega, rfl, v3, fun m hm => by
            cases m with
            | zero => exact fun q => c (hd0.mp q)
            | succ m => exact v4 m (by omega)⟩
          refine ⟨?_, memo_put hg w2 (by rw [e25]; exact hv)⟩
          rw [upd_eq]; exact hv
      · rw [if_neg c3]
        have q := (hM (24 - f) k o (by omega) (by omega) hg).resolve_left c3
        rw [show 25 - (24 - f) = f + 1 by omega] at q
        exact ⟨q, hM⟩
end
/-! whoever knows more can do all that one who knows less can -/
section
variable {p : Nat} {zd zt zm : Int32} {cA : Nat → Int32}
theorem ext_step {ch : Nat → Int32} (hp : p ≤ 7) (hc : ∀ a b : Nat, a < p → b < 32 → bt (ch a) b = true → b < p) {r : Nat → Nat} (hr : RWp p ch p r) (hm : ¬ rmax p ch r) : ∃ r2 : Nat → Nat, RWp p ch p r2 ∧ ctB (fun a => decide (r a = 7)) p = ctB (fun a => decide (r2 a = 7)) p + 1 ∧ ∀ i : Nat, i < 32 → bt (rset r p) i = true → bt (rset r2 p) i = true := by
  have hle : ∀ a : Nat, a < p → r a ≤ 7 := fun a ha => hr.le hp ha
  have h1 : ∃ a : Nat, a < p ∧ r a = 7 ∧ ¬ ch a &&& (rset r p ^^^ (-1 : Int32)) = 0 := by
    refine Classical.byContradiction fun z => hm fun a ha e => ?_
    by_cases q : ch a &&& (rset r p ^^^ (-1 : Int32)) = 0
    · exact q
    · exact absurd ⟨a, ha, e, q⟩ z
  obtain ⟨a, ha, e7, hne⟩ := h1
  have h2 : ∃ c : Nat, c < 32 ∧ bt (ch a) c = true ∧ bt (rset r p) c = false := by
    refine Classical.byContradiction fun z => hne (b_ext fun i hi => ?_)
    rw [b_and, b_nt _ hi, b_0]
    cases q1 : bt (ch a) i with
    | false => rfl
    | true =>
      cases q2 : bt (rset r p) i with
      | true => rfl
      | false => exact absurd ⟨i, hi, q1, q2⟩ z
  obtain ⟨c, hc32, q1, q2⟩ := h2
  have hcp := hc a c ha hc32 q1
  have hfree : ∀ x : Nat, x < p → ¬ r x = c := fun x hx e => by
    have := (rset_bit p hle c hc32).mpr ⟨x, hx, e, by omega⟩
    rw [q2] at this; cases this
  have hr2 : RWp p ch p (rput r a c) := fun x hx => by
    by_cases e : x = a
    · rw [e, rput_eq]
      exact Or.inr ⟨hcp, q1, fun y hy => by rw [rput_ne (by omega)]; exact hfree y (by omega)⟩
    · rw [rput_ne e]
      rcases hr x hx with z | ⟨z1, z2, z3⟩
      · exact Or.inl z
      · refine Or.inr ⟨z1, z2, fun y hy => ?_⟩
        by_cases e2 : y = a
        · rw [e2, rput_eq]
          exact fun w => hfree x hx w.symm
        · rw [rput_ne e2]; exact z3 y hy
  refine ⟨rput r a c, hr2, ctB_put (s := a) (decide_eq_false (by rw [rput_eq]; omega)) (decide_eq_true e7) (fun x hx => by rw [rput_ne hx]) p ha, fun i hi q => ?_⟩
  obtain ⟨x, hx, w1, w2⟩ := (rset_bit p hle i hi).mp q
  have hxa : ¬ x = a := fun e => w2 (by rw [e]; exact e7)
  exact (rset_bit p (fun x hx => hr2.le hp hx) i hi).mpr ⟨x, hx, by rw [rput_ne hxa]; exact w1, by rw [rput_ne hxa]; exact w2⟩
theorem ext_max {ch : Nat → Int32} (hp : p ≤ 7) (hc : ∀ a b : Nat, a < p → b < 32 → bt (ch a) b = true → b < p) : ∀ (N : Nat) (r : Nat → Nat), RWp p ch p r → ctB (fun a => decide (r a = 7)) p ≤ N → ∃ r2 : Nat → Nat, RWp p ch p r2 ∧ rmax p ch r2 ∧ ∀ i : Nat, i < 32 → bt (rset r p) i = true → bt (rset r2 p) i = true
  | 0, r, hr, hN => by
    by_cases hm : rmax p ch r
    · exact ⟨r, hr, hm, fun _ _ q => q⟩
    · obtain ⟨r2, -, h2, -⟩ := ext_step hp hc hr hm
      omega
  | N + 1, r, hr, hN => by
    by_cases hm : rmax p ch r
    · exact ⟨r, hr, hm, fun _ _ q => q⟩
    · obtain ⟨r2, h1, h2, h3⟩ := ext_step hp hc hr hm
      obtain ⟨r3, g1, g2, g3⟩ := ext_max hp hc N r2 h1 (by omega)
      exact ⟨r3, g1, g2, fun i hi q => g3 i hi (h3 i hi q)⟩
/-- a row without the calls to those of a set -/
def rcut (k : Int32) (r : Nat → Nat) : Nat → Nat := fun a => if bt k (r a) = true then 7 else r a
theorem rcut_7 {k : Int32} {r : Nat → Nat} {a : Nat} (h : bt k (r a) = true) : rcut k r a = 7 := if_pos h
theorem rcut_r {k : Int32} {r : Nat → Nat} {a : Nat} (h : ¬ bt k (r a) = true) : rcut k r a = r a := if_neg h
def LEs (x y : Int32) : Prop := (∀ i : Nat, i < 32 → bt (F_X7_knownIn x) i = true → bt (F_X7_knownIn y) i = true) ∧ ∀ i : Nat, i < 32 → bt (F_X7_onceIn x) i = true → bt (F_X7_knownIn y) i = true ∨ bt (F_X7_onceIn y) i = true
theorem le_b1 (kx ox k2 o2 C C2 d : Bool) (h1 : kx = true → k2 = true) (h2 : ox = true → k2 = true ∨ o2 = true) (h3 : C = true → k2 = false → C2 = true) (h4 : (kx || (C && (!d || ox))) = true) : (k2 || (C2 && (!d || o2))) = true := by
  revert h1 h2 h3 h4
  cases kx <;> cases ox <;> cases k2 <;> cases o2 <;> cases C <;> cases C2 <;> cases d <;> decide
theorem le_b2 (kx ox k2 o2 C C2 d : Bool) (h1 : kx = true → k2 = true) (h2 : ox = true → k2 = true ∨ o2 = true) (h3 : C = true → k2 = false → C2 = true) (h4 : ((ox || C) && !(kx || (C && (!d || ox)))) = true) : (k2 || (C2 && (!d || o2))) = true ∨ ((o2 || C2) && !(k2 || (C2 && (!d || o2)))) = true := by
  revert h1 h2 h3 h4
  cases kx <;> cases ox <;> cases k2 <;> cases o2 <;> cases C <;> cases C2 <;> cases d <;> decide
theorem le_after {x y C C2 : Int32} (hx : GS x) (hy : GS y) (hC : s7 C) (hC2 : s7 C2) (h : LEs x y) (hs : ∀ i : Nat, i < 32 → bt C i = true → bt (F_X7_knownIn y) i = false → bt C2 i = true) : LEs (F_X7_stateAfter zd x C) (F_X7_stateAfter zd y C2) := by
  constructor
  · intro i hi q
    rw [kn_after hx hC, b_or, b_and] at q
    rw [kn_after hy hC2, b_or, b_and]
    unfold F_X7_understands at q ⊢
    rw [b_or, b_nt _ hi] at q ⊢
    exact le_b1 _ _ _ _ _ _ _ (h.1 i hi) (h.2 i hi) (hs i hi) q
  · intro i hi q
    rw [on_after hx hC, b_and, b_or, b_nt _ hi, b_or, b_and] at q
    rw [kn_after hy hC2, on_after hy hC2, b_and, b_or, b_and, b_or, b_nt _ hi, b_or, b_and]
    unfold F_X7_understands at q ⊢
    rw [b_or, b_nt _ hi] at q ⊢
    exact le_b2 _ _ _ _ _ _ _ (h.1 i hi) (h.2 i hi) (hs i hi) q
theorem dom_row {x y : Int32} {h : Nat} (hp : p ≤ 7) (hzt : ∀ i : Nat, i < 32 → bt zt i = true → i < p) (hl : LEs x y) {r : Nat → Nat} (hr : RWp p (chX cA x h zt) p r) : ∃ r2 : Nat → Nat, RWp p (chX cA y h zt) p r2 ∧ rmax p (chX cA y h zt) r2 ∧ ∀ i : Nat, i < 32 → bt (rset r p) i = true → bt (F_X7_knownIn y) i = false → bt (rset r2 p) i = true := by
  have hle : ∀ a : Nat, a < p → r a ≤ 7 := fun a ha => hr.le hp ha
  have hbit : ∀ (z : Int32) (a b : Nat), a < p → b < 32 → (bt (chX cA z h zt a) b = true ↔ bt (F_X7_knownIn z) a = true ∧ bt (cA (h * 7 + a)) b = true ∧ bt zt b = true ∧ bt (F_X7_knownIn z) b = false) := fun z a b ha hb => by
    unfold chX
    by_cases q : hasv (F_X7_knownIn z) (nI a) = 0
    · rw [if_pos q, b_0]
      have e : bt (F_X7_knownIn z) a = false := (hvb_0 (by omega)).mp q
      constructor
      · intro w; cases w
      · rintro ⟨w, -⟩
        rw [e] at w; cases w
    · rw [if_neg q, b_and, b_and, b_nt _ hb, Bool.and_eq_true, Bool.and_eq_true, Bool.not_eq_true']
      have e : bt (F_X7_knownIn z) a = true := (bt_hasv (by omega)).mp q
      constructor
      · rintro ⟨⟨w1, w2⟩, w3⟩
        exact ⟨e, w1, w2, w3⟩
      · rintro ⟨-, w1, w2, w3⟩
        exact ⟨⟨w1, w2⟩, w3⟩
  have hr1 : RWp p (chX cA y h zt) p (rcut (F_X7_knownIn y) r) := fun a ha => by
    by_cases q : bt (F_X7_knownIn y) (r a) = true
    · exact Or.inl (rcut_7 q)
    · rw [rcut_r q]
      rcases hr a ha with z | ⟨z1, z2, z3⟩
      · exact Or.inl z
      · refine Or.inr ⟨z1, ?_, fun b hb => ?_⟩
        · obtain ⟨w1, w2, w3, -⟩ := (hbit x a (r a) ha (by omega)).mp z2
          refine (hbit y a (r a) ha (by omega)).mpr ⟨hl.1 a (by omega) w1, w2, w3, ?_⟩
          cases e : bt (F_X7_knownIn y) (r a) with
          | false => rfl
          | true => exact absurd e q
        · by_cases e : bt (F_X7_knownIn y) (r b) = true
          · rw [rcut_7 e]; omega
          · rw [rcut_r e]; exact z3 b hb
  obtain ⟨r2, g1, g2, g3⟩ := ext_max hp (fun a b ha hb q => hzt b hb ((hbit y a b ha hb).mp q).2.2.1) p _ hr1 (ctB_top p)
  refine ⟨r2, g1, g2, fun i hi q1 q2 => g3 i hi ?_⟩
  obtain ⟨a, ha, e1, e2⟩ := (rset_bit p hle i hi).mp q1
  have hne : ¬ bt (F_X7_knownIn y) (r a) = true := by rw [e1, q2]; decide
  exact (rset_bit p (fun a ha => hr1.le hp ha) i hi).mpr ⟨a, ha, by rw [rcut_r hne]; exact e1, by rw [rcut_r hne]; exact e2⟩
def DX (p : Nat) (zd zt zm : Int32) (cA : Nat → Int32) : Nat → Nat → Int32 → Prop
  | 0, _, x => ¬ F_X7_isDone zm (F_X7_knownIn x) = 0
  | n + 1, h, x => ∃ C : Int32, SetOf p (chX cA x h zt) C ∧ DX p zd zt zm cA n (h + 1) (F_X7_stateAfter zd x C)
theorem dn_dx (hp : p ≤ 7) (hzt : ∀ i : Nat, i < 32 → bt zt i = true → i < p) : ∀ (n h : Nat) (x y : Int32), GS x → GS y → LEs x y → DN p zd zt zm cA n h x → DX p zd zt zm cA n h y
  | 0, h, x, y, _, _, hl, q => done_up hl.1 q
  | n + 1, h, x, y, hx, hy, hl, q => by
    obtain ⟨r, hr, q2⟩ := q
    obtain ⟨r2, g1, g2, g3⟩ := dom_row hp hzt hl hr
    have hC : s7 (rset r p) := rset_7 fun a ha => hr.le hp ha
    have hC2 : s7 (rset r2 p) := rset_7 fun a ha => g1.le hp ha
    exact ⟨rset r2 p, ⟨r2, g1, g2, rfl⟩, dn_dx hp hzt n (h + 1) _ _ (gs_after hx hC) (gs_after hy hC2) (le_after hx hy hC hC2 hl g3) q2⟩
theorem dx_dn : ∀ (n h : Nat) (x : Int32), DX p zd zt zm cA n h x → DN p zd zt zm cA n h x
  | 0, _, _, q => q
  | n + 1, h, x, q => by
    obtain ⟨C, ⟨r, h1, _, rfl⟩, q2⟩ := q
    exact ⟨r, h1, dx_dn n (h + 1) _ q2⟩
theorem dx_zp {ho : Nat} {s0 : Int32} : ∀ (n j : Nat) (x : Int32), ZS p ho zd zt cA s0 j x → DX p zd zt zm cA n (ho + j) x → ZP p ho zd zt cA s0 zm (j + n)
  | 0, j, x, hx, q => ⟨x, hx, q⟩
  | n + 1, j, x, hx, q => by
    obtain ⟨C, hC, q2⟩ := q
    have := dx_zp n (j + 1) (F_X7_stateAfter zd x C) ⟨x, hx, C, hC, rfl⟩ q2
    rw [show j + (n + 1) = j + 1 + n by omega]
    exact this
theorem zp_dx {ho : Nat} {s0 : Int32} : ∀ (j n : Nat) (x : Int32), ZS p ho zd zt cA s0 j x → DX p zd zt zm cA n (ho + j) x → DX p zd zt zm cA (n + j) ho s0
  | 0, n, x, hx, q => by
    have e : x = s0 := hx
    rw [e] at q; exact q
  | j + 1, n, x, hx, q => by
    obtain ⟨x0, h0, C, hC, rfl⟩ := hx
    have := zp_dx j (n + 1) x0 h0 ⟨C, hC, q⟩
    rw [show n + (j + 1) = n + 1 + j by omega]
    exact this
theorem zp_dn (hp : p ≤ 7) (hzt : ∀ i : Nat, i < 32 → bt zt i = true → i < p) {ho n : Nat} {s0 : Int32} (h0 : GS s0) : ZP p ho zd zt cA s0 zm n ↔ DN p zd zt zm cA n ho s0 := by
  constructor
  · rintro ⟨x, hx, q⟩
    have := zp_dx (zm := zm) n 0 x hx q
    rw [Nat.zero_add] at this
    exact dx_dn _ _ _ this
  · intro q
    have := dx_zp (zm := zm) (cA := cA) (zd := zd) (zt := zt) n 0 s0 (show ZS p ho zd zt cA s0 0 s0 from rfl) (dn_dx hp hzt n ho s0 s0 h0 h0 ⟨fun _ _ q => q, fun _ _ q => Or.inr q⟩ q)
    rw [Nat.zero_add] at this
    exact this
end

/-! the reference's lowest row -/
theorem zb_iff {x : Int32} : zb x = 0 ↔ x = 0 := by
  unfold zb
  by_cases h : x = 0
  · rw [if_pos h]; exact ⟨fun _ => h, fun _ => rfl⟩
  · rw [if_neg h]; exact ⟨fun q => absurd q (by decide), fun q => absurd q h⟩
theorem mv_le {Z : Nat → Prop} {b left : Nat} {v : Int32} (hb : b ≤ 24) (hl : left ≤ b) (h : MV Z b v) : ¬ nI left < v ↔ ∃ n : Nat, n ≤ left ∧ Z n := by
  rcases h with ⟨a1, a2⟩ | ⟨n, a1, a2, a3, a4⟩
  · rw [a1]
    exact ⟨fun q => absurd ((nI_ltI (a := left) (b := 99) (by omega) (by omega)).mpr (by omega)) q, fun ⟨n, h1, h2⟩ => absurd h2 (a2 n (by omega))⟩
  · rw [a2]
    constructor
    · intro q
      refine ⟨n, ?_, a3⟩
      by_cases z : n ≤ left
      · exact z
      · exact absurd ((nI_ltI (a := left) (b := n) (by omega) (by omega)).mpr (by omega)) q
    · rintro ⟨m, h1, h2⟩ q
      have := (nI_ltI (a := left) (b := n) (by omega) (by omega)).mp q
      exact a4 m (by omega) h2
section
variable {p : Nat} {zd zt zm an : Int32} {cA rA rB rD rF rO rT rW : Nat → Int32} {i lc h left : Nat} {kw oz : Int32}
/-- a row from which it can be done in the hours that are left -/
def GR (p : Nat) (zd zt zm : Int32) (cA : Nat → Int32) (h left : Nat) (x : Int32) (r : Nat → Nat) : Prop := ∃ n : Nat, n ≤ left ∧ DN p zd zt zm cA n (h + 1) (F_X7_stateAfter zd x (rset r p))
def LWP (p : Nat) (zd zt zm : Int32) (cA : Nat → Int32) (h left : Nat) (kw oz : Int32) (fj : Nat) (r : Nat → Nat) (gR : Nat → Int32) (u : LWR) : Prop := MEMO p zd zt zm cA u.2.1 ∧ (∀ a : Nat, a < fj → u.2.2.1 a = gR a) ∧ ((¬ u.1 = 0 ∧ ∃ r2 : Nat → Nat, First p (chX cA (F_X7_state kw oz) h zt) (GR p zd zt zm cA h left (F_X7_state kw oz)) fj r r2 ∧ (∀ a : Nat, fj ≤ a → a < p → u.2.2.1 a = nI (r2 a)) ∧ GD2 zd u.2.2.2.1 u.2.2.2.2 ∧ F_X7_state u.2.2.2.1 u.2.2.2.2 = F_X7_stateAfter zd (F_X7_state kw oz) (rset r2 p)) ∨ (u.1 = 0 ∧ ∀ r2 : Nat → Nat, RWp p (chX cA (F_X7_state kw oz) h zt) p r2 → (∀ a : Nat, a < fj → r2 a = r a) → ¬ GR p zd zt zm cA h left (F_X7_state kw oz) r2))
abbrev MCf (rA rB rF rT rW rO : Nat → Int32) (lc i : Nat) : Nat → Nat → Nat → Int32 := fun h a b => F_X12_mayCall rA rB rF rT rW rO lc i a b (nI h)
theorem lw_leaf (hp : p ≤ 7) (hD : rD i = zd) (hH : CHH p zt cA an (MCf rA rB rF rT rW rO lc i)) (h1 : 1 ≤ h) (h2 : h ≤ 24) (hl : left ≤ 24 - h) (hg : GD2 zd kw oz) {r : Nat → Nat} (hr : RWp p (chX cA (F_X7_state kw oz) h zt) p r) {gN gR : Nat → Int32} (hM : MEMO p zd zt zm cA gN) : LWP p zd zt zm cA h left kw oz p r gR (F_X12_lowestL zm an rD rA rB rF rT rW rO gN gR i lc p h kw oz (rset r p) (nI left)) := by
  have hC : s7 (rset r p) := rset_7 fun a ha => hr.le hp ha
  have hdj : ∀ i : Nat, i < 32 → bt (rset r p) i = true → bt kw i = false := fun b hb q => by
    obtain ⟨a, ha, e1, e2⟩ := (rset_bit p (fun a ha => hr.le hp ha) b hb).mp q
    rcases hr a ha with z | ⟨z1, z2, -⟩
    · exact absurd z e2
    · have := ((chk_of hp hH h1 h2 hg.1 a (r a) ha z1).mp z2).2.2.2.2
      rw [e1] at this
      exact this
  obtain ⟨q1, q2⟩ := aft_ref hg hC hdj
  have q3 := nd_MV hp hD hH (25 - (h + 1)) (by omega) _ _ gN q2 hM
  rw [← q1, show 25 - (25 - (h + 1)) = h + 1 by omega] at q3
  obtain ⟨q4, q5⟩ := q3
  have q6 := mv_le (left := left) (show 25 - (h + 1) ≤ 24 by omega) (by omega) q4
  have same : ∀ r2 : Nat → Nat, (∀ a : Nat, a < p → r2 a = r a) → (GR p zd zt zm cA h left (F_X7_state kw oz) r2 ↔ ∃ n : Nat, n ≤ left ∧ DN p zd zt zm cA n (h + 1) (F_X7_stateAfter zd (F_X7_state kw oz) (rset r p))) := fun r2 e => by
    unfold GR
    rw [rset_cong p e]
  unfold F_X12_lowestL
  rw [hD]
  by_cases c : nI left < (NDf zm an rD i p (MCf rA rB rF rT rW rO lc i) (25 - (h + 1)) (kw ||| ((rset r p &&& (kw ^^^ (-1 : Int32))) &&& ((zd ^^^ (-1 : Int32)) ||| oz))) (((oz ||| (rset r p &&& (kw ^^^ (-1 : Int32)))) &&& zd) &&& ((kw ||| ((rset r p &&& (kw ^^^ (-1 : Int32))) &&& ((zd ^^^ (-1 : Int32)) ||| oz))) ^^^ (-1 : Int32))) gN).1
  · rw [if_pos c]
    refine ⟨q5, fun _ _ => rfl, Or.inr ⟨rfl, fun r2 _ e q => ?_⟩⟩
    exact q6.mpr ((same r2 e).mp q) c
  · rw [if_neg c]
    refine ⟨q5, fun _ _ => rfl, Or.inl ⟨show ¬ (1 : Int32) = 0 by decide, r, ⟨hr, fun _ _ => rfl, (same r fun _ _ => rfl).mpr (q6.mp c), fun a h1 h2 => absurd h2 (by omega)⟩, fun a h1 h2 => absurd h2 (by omega), q2, q1.symm⟩⟩
/-- one more person told in the row -/
theorem lwp_up {fj c : Nat} {r : Nat → Nat} {gR : Nat → Int32} {u : LWR} {v : Int32} (hfj : fj < p) (hv : ¬ v = 0) (hu : ¬ u.1 = 0) (hno : ∀ r2 : Nat → Nat, RWp p (chX cA (F_X7_state kw oz) h zt) p r2 → (∀ a : Nat, a < fj → r2 a = r a) → r2 fj < c → ¬ GR p zd zt zm cA h left (F_X7_state kw oz) r2) (H : LWP p zd zt zm cA h left kw oz (fj + 1) (rput r fj c) (upd gR fj (nI c)) u) : LWP p zd zt zm cA h left kw oz fj r gR (v, u.2.1, u.2.2.1, u.2.2.2.1, u.2.2.2.2) := by
  obtain ⟨a1, a2, a3⟩ := H
  refine ⟨a1, fun a ha => ?_, Or.inl ⟨hv, ?_⟩⟩
  · show u.2.2.1 a = gR a
    rw [a2 a (by omega), upd_ne (by omega)]
  · rcases a3 with ⟨-, r2, b1, b2, b3, b4⟩ | ⟨z, -⟩
    · obtain ⟨d1, d2, d3, d4⟩ := b1
      have df : r2 fj = c := by rw [d2 fj (by omega), rput_eq]
      refine ⟨r2, ⟨d1, fun a ha => (d2 a (by omega)).trans (rput_lt a ha), d3, fun a h1 h2 r3 f1 f2 f3 => ?_⟩, fun a h1 h2 => ?_, b3, b4⟩
      · by_cases y : a = fj
        · rw [y] at f2 f3
          exact hno r3 f1 (fun b hb => (f2 b hb).trans ((d2 b (by omega)).trans (rput_lt b hb))) (by omega)
        · exact d4 a (by omega) h2 r3 f1 f2 f3
      · show u.2.2.1 a = nI (r2 a)
        by_cases y : a = fj
        · rw [y, a2 fj (by omega), upd_eq, df]
        · exact b2 a (by omega) h2
    · exact absurd z hu
theorem lwp_still {fj : Nat} {r : Nat → Nat} {gR : Nat → Int32} {u : LWR} (hfj : fj < p) (hno : ∀ r2 : Nat → Nat, RWp p (chX cA (F_X7_state kw oz) h zt) p r2 → (∀ a : Nat, a < fj → r2 a = r a) → r2 fj < 7 → ¬ GR p zd zt zm cA h left (F_X7_state kw oz) r2) (hp : p ≤ 7) (H : LWP p zd zt zm cA h left kw oz (fj + 1) (rput r fj 7) (upd gR fj 7) u) : LWP p zd zt zm cA h left kw oz fj r gR (zb u.1, u.2.1, u.2.2.1, u.2.2.2.1, u.2.2.2.2) := by
  by_cases hu : u.1 = 0
  · obtain ⟨a1, a2, a3⟩ := H
    refine ⟨a1, fun a ha => ?_, Or.inr ⟨zb_iff.mpr hu, fun r2 d1 d2 => ?_⟩⟩
    · show u.2.2.1 a = gR a
      rw [a2 a (by omega), upd_ne (by omega)]
    · rcases a3 with ⟨z, -⟩ | ⟨-, z⟩
      · exact absurd hu z
      · rcases d1 fj hfj with y | ⟨y, -, -⟩
        · refine z r2 d1 fun a ha => ?_
          by_cases e : a = fj
          · rw [e, rput_eq]; exact y
          · rw [rput_ne e]; exact d2 a (by omega)
        · exact hno r2 d1 d2 (by omega)
  · exact lwp_up hfj (fun q => hu (zb_iff.mp q)) hu hno H
theorem lw_loop (hp : p ≤ 7) (hch : CHK p (chX cA (F_X7_state kw oz) h zt) kw an (MCf rA rB rF rT rW rO lc i h)) {fj : Nat} (hfj : fj < p) {r : Nat → Nat} (hr : RWp p (chX cA (F_X7_state kw oz) h zt) fj r) {bu : Int32} (hbu : BU bu r fj) (hk : bt kw fj = true) (hn : bt an fj = false) {R : LWT}
    (hR : ∀ r2 : Nat → Nat, RWp p (chX cA (F_X7_state kw oz) h zt) (fj + 1) r2 → ∀ bu : Int32, BU bu r2 (fj + 1) → ∀ (gN gR : Nat → Int32) (ka kb : Int32), MEMO p zd zt zm cA gN → LWP p zd zt zm cA h left kw oz (fj + 1) r2 gR (R (fj + 1) bu (rset r2 (fj + 1)) gN gR ka kb)) :
    ∀ (m j : Nat) (N G : Nat → Int32) (ka kb : Int32), p < m + j → j ≤ p → MEMO p zd zt zm cA N → (∀ r2 : Nat → Nat, RWp p (chX cA (F_X7_state kw oz) h zt) p r2 → (∀ a : Nat, a < fj → r2 a = r a) → r2 fj < j → ¬ GR p zd zt zm cA h left (F_X7_state kw oz) r2) → LWP p zd zt zm cA h left kw oz fj r G (L1_X12_lowest an rA rB rF rT rW rO i lc p h kw fj bu (rset r fj) R m j N G ka kb)
  | 0, j, _, _, _, _, q, q2, _, _ => absurd q (by omega)
  | m + 1, j, N, G, ka, kb, q, q2, hM, hno => by
    rw [L1_X12_lowest]
    by_cases c1 : nI p ≤ nI j
    · rw [if_pos c1]
      have hj : j = p := by
        have := (nI_leI (a := p) (b := j) (by omega) (by omega)).mp c1
        omega
      have g := hR (rput r fj 7) hr.still bu hbu.still N (upd G fj 7) ka kb hM
      rw [rset_still] at g
      refine lwp_still hfj (fun r2 d1 d2 d3 => ?_) hp g
      rcases d1 fj hfj with y | ⟨y, -, -⟩
      · omega
      · exact hno r2 d1 d2 (by omega)
    · rw [if_neg c1]
      have hj : j < p := by
        have z : ¬ p ≤ j := fun z => c1 ((nI_leI (by omega) (by omega)).mpr z)
        omega
      have skip : (∀ r3 : Nat → Nat, RWp p (chX cA (F_X7_state kw oz) h zt) p r3 → (∀ a : Nat, a < fj → r3 a = r a) → ¬ r3 fj = j) → LWP p zd zt zm cA h left kw oz fj r G (L1_X12_lowest an rA rB rF rT rW rO i lc p h kw fj bu (rset r fj) R m (j + 1) N G ka kb) := fun hn2 => lw_loop hp hch hfj hr hbu hk hn hR m (j + 1) N G ka kb (by omega) (by omega) hM fun r2 d1 d2 d3 => hno r2 d1 d2 (by have := hn2 r2 d1 d2; omega)
      have hbt : ∀ r3 : Nat → Nat, RWp p (chX cA (F_X7_state kw oz) h zt) p r3 → r3 fj = j → bt (chX cA (F_X7_state kw oz) h zt fj) j = true ∧ ∀ c : Nat, c < fj → ¬ r3 c = j := fun r3 a1 e => by
        rcases a1 fj hfj with z | ⟨_, z2, z3⟩
        · omega
        · rw [e] at z2 z3
          exact ⟨z2, z3⟩
      by_cases c3 : nI j = nI fj
      · rw [if_pos c3]
        have e := (nI_eq (a := j) (b := fj) (by omega) (by omega)).mp c3
        refine skip fun r3 a1 a2 q => ?_
        have := ((hch fj j hfj hj).mp (hbt r3 a1 q).1).2.2.2.2
        rw [e, hk] at this; cases this
      · rw [if_neg c3]
        by_cases c4 : (((bu ||| an) ||| kw) >>> (nI j &&& 31)) &&& (1 : Int32) = 1
        · rw [if_pos c4]
          refine skip fun r3 a1 a2 q => ?_
          have z := (shrb_1 (by omega)).mp c4
          rw [b_or, b_or, Bool.or_eq_true, Bool.or_eq_true] at z
          obtain ⟨y1, y2⟩ := hbt r3 a1 q
          obtain ⟨-, -, -, y3, y4⟩ := (hch fj j hfj hj).mp y1
          rcases z with (z | z) | z
          · obtain ⟨a, ha, w1, w2⟩ := (hbu j (by omega)).mp z
            rcases w2 with w2 | w2
            · rcases hr a ha with w3 | ⟨w3, w4, -⟩
              · exact w1 w3
              · have := ((hch a (r a) (by omega) w3).mp w4).1
                rw [w2, y4] at this; cases this
            · exact y2 a ha (by rw [a2 a ha]; exact w2)
          · rw [y3] at z; cases z
          · rw [y4] at z; cases z
        · rw [if_neg c4]
          by_cases c5 : F_X12_mayCall rA rB rF rT rW rO lc i fj j (nI h) = 0
          · rw [if_pos c5]
            refine skip fun r3 a1 a2 q => ?_
            exact ((hch fj j hfj hj).mp (hbt r3 a1 q).1).2.2.1 c5
          · rw [if_neg c5]
            have z : ¬ (bt bu j = true ∨ bt an j = true ∨ bt kw j = true) := fun z => c4 ((shrb_1 (by omega)).mpr (by
              rw [b_or, b_or, Bool.or_eq_true, Bool.or_eq_true]
              rcases z with z | z | z
              · exact Or.inl (Or.inl z)
              · exact Or.inl (Or.inr z)
              · exact Or.inr z))
            have f0 : ∀ {x : Bool}, ¬ x = true → x = false := fun {x} q => by cases x with | false => rfl | true => exact absurd rfl q
            have hcj : bt (chX cA (F_X7_state kw oz) h zt fj) j = true := (hch fj j hfj hj).mpr ⟨hk, hn, c5, f0 fun q => z (Or.inr (Or.inl q)), f0 fun q => z (Or.inr (Or.inr q))⟩
            have hnc : ∀ c : Nat, c < fj → ¬ r c = j := fun c hc q => z (Or.inl ((hbu j (by omega)).mpr ⟨c, hc, by omega, Or.inr q⟩))
            have hj7 : ¬ j = 7 := by omega
            have g := hR (rput r fj j) (hr.call hj hcj hnc) _ (hbu.call (by omega) (by omega)) N (upd G fj (nI j)) ka kb hM
            rw [rset_call hj7] at g
            generalize R (fj + 1) ((bu ||| ((1 : Int32) <<< (nI fj &&& 31))) ||| ((1 : Int32) <<< (nI j &&& 31))) (rset r fj ||| ((1 : Int32) <<< (nI j &&& 31))) N (upd G fj (nI j)) ka kb = u at g ⊢
            by_cases c6 : zb u.1 = 0
            · rw [if_pos c6]
              have hu := zb_iff.mp c6
              obtain ⟨g1, g2, g3⟩ := g
              have ih := lw_loop hp hch hfj hr hbu hk hn hR m (j + 1) u.2.1 u.2.2.1 u.2.2.2.1 u.2.2.2.2 (by omega) (by omega) g1 fun r2 d1 d2 d3 => by
                by_cases y : r2 fj = j
                · rcases g3 with ⟨z, -⟩ | ⟨-, z⟩
                  · exact absurd hu z
                  · refine z r2 d1 fun a ha => ?_
                    by_cases e : a = fj
                    · rw [e, rput_eq]; exact y
                    · rw [rput_ne e]; exact d2 a (by omega)
                · exact hno r2 d1 d2 (by omega)
              obtain ⟨k1, k2, k3⟩ := ih
              exact ⟨k1, fun a ha => by rw [k2 a ha, g2 a (by omega), upd_ne (by omega)], k3⟩
            · rw [if_neg c6]
              exact lwp_up hfj (by decide) (fun q => c6 (zb_iff.mpr q)) hno g
theorem lw_all (hp : p ≤ 7) (hD : rD i = zd) (hH : CHH p zt cA an (MCf rA rB rF rT rW rO lc i)) (h1 : 1 ≤ h) (h2 : h ≤ 24) (hl : left ≤ 24 - h) (hg : GD2 zd kw oz) : ∀ f fj : Nat, fj + f = p → ∀ r : Nat → Nat, RWp p (chX cA (F_X7_state kw oz) h zt) fj r → ∀ bu : Int32, BU bu r fj → ∀ (gN gR : Nat → Int32) (ka kb : Int32), MEMO p zd zt zm cA gN → LWP p zd zt zm cA h left kw oz fj r gR (LW zm an h i kw lc (nI left) oz p rA rB rD rF rO rT rW f fj bu (rset r fj) gN gR ka kb)
  | 0, fj, e, r, hr, bu, hbu, gN, gR, ka, kb, hM => by
    have e2 : fj = p := by omega
    rw [e2] at hr ⊢
    exact lw_leaf hp hD hH h1 h2 hl hg hr hM
  | f + 1, fj, e, r, hr, bu, hbu, gN, gR, ka, kb, hM => by
    have hfj : fj < p := by omega
    have hch := chk_of hp hH h1 h2 (o := oz) hg.1
    have hR := fun r2 hr2 bu hbu gN gR ka kb hM => lw_all hp hD hH h1 h2 hl hg f (fj + 1) (by omega) r2 hr2 bu hbu gN gR ka kb hM
    have eT : LW zm an h i kw lc (nI left) oz p rA rB rD rF rO rT rW (f + 1) fj bu (rset r fj) gN gR ka kb = F_X12_lowest an rA rB rF rT rW rO gN gR ka kb i lc p h kw fj bu (rset r fj) (LW zm an h i kw lc (nI left) oz p rA rB rD rF rO rT rW f) := rfl
    rw [eT]
    unfold F_X12_lowest
    have nocall : (∀ c : Nat, c < p → ¬ bt (chX cA (F_X7_state kw oz) h zt fj) c = true) → LWP p zd zt zm cA h left kw oz fj r gR (zb (LW zm an h i kw lc (nI left) oz p rA rB rD rF rO rT rW f (fj + 1) bu (rset r fj) gN (upd gR fj 7) ka kb).1, (LW zm an h i kw lc (nI left) oz p rA rB rD rF rO rT rW f (fj + 1) bu (rset r fj) gN (upd gR fj 7) ka kb).2.1, (LW zm an h i kw lc (nI left) oz p rA rB rD rF rO rT rW f (fj + 1) bu (rset r fj) gN (upd gR fj 7) ka kb).2.2.1, (LW zm an h i kw lc (nI left) oz p rA rB rD rF rO rT rW f (fj + 1) bu (rset r fj) gN (upd gR fj 7) ka kb).2.2.2.1, (LW zm an h i kw lc (nI left) oz p rA rB rD rF rO rT rW f (fj + 1) bu (rset r fj) gN (upd gR fj 7) ka kb).2.2.2.2) := fun hno => by
      have g := hR (rput r fj 7) hr.still bu hbu.still gN (upd gR fj 7) ka kb hM
      rw [rset_still] at g
      refine lwp_still hfj (fun r2 d1 d2 d3 => ?_) hp g
      rcases d1 fj hfj with y | ⟨y, y2, -⟩
      · omega
      · exact absurd y2 (hno _ y)
    by_cases c1 : (kw >>> (nI fj &&& 31)) &&& (1 : Int32) = 1
    · rw [if_pos c1]
      have hk := (shrb_1 (by omega)).mp c1
      by_cases c2 : (an >>> (nI fj &&& 31)) &&& (1 : Int32) = 0
      · rw [if_pos c2]
        have hn := (shr_0 (by omega)).mp c2
        by_cases c3 : (bu >>> (nI fj &&& 31)) &&& (1 : Int32) = 0
        · rw [if_pos c3]
          exact lw_loop hp hch hfj hr hbu hk hn hR (p + 1) 0 gN gR ka kb (by omega) (Nat.zero_le _) hM fun _ _ _ z => absurd z (Nat.not_lt_zero _)
        · exfalso
          have hbf : bt bu fj = true := by
            cases q : bt bu fj with
            | true => rfl
            | false => exact absurd ((shr_0 (by omega)).mpr q) c3
          obtain ⟨a, ha, w1, w2⟩ := (hbu fj (by omega)).mp hbf
          rcases w2 with w2 | w2
          · omega
          · rcases hr a ha with w3 | ⟨w3, w4, -⟩
            · exact w1 w3
            · have := ((hch a (r a) (by omega) w3).mp w4).2.2.2.2
              rw [w2, hk] at this; cases this
      · rw [if_neg c2]
        exact nocall fun c hc q => c2 ((shr_0 (by omega)).mpr ((hch fj c hfj hc).mp q).2.1)
    · rw [if_neg c1]
      exact nocall fun c hc q => c1 ((shrb_1 (by omega)).mpr ((hch fj c hfj hc).mp q).1)
end

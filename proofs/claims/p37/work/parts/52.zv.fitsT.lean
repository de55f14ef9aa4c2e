/-! fits: tales against what is known -/
theorem whose_bit {p nw o : Nat} {h : Int32} {ta : Nat → Int32} (hp : p ≤ 7) (ho : o < 32) : bt (F_X10_whoseTaleIs p nw h ta) o = true ↔ o < p ∧ F_X10_taleOf nw o ta = h := by
  have e : ∀ m : Nat, m ≤ p → (bt (L1_X10_whoseTaleIs nw h ta 0 m) o = true ↔ o < m ∧ F_X10_taleOf nw o ta = h) := by
    intro m
    induction m with
    | zero => intro _; show bt 0 o = true ↔ _; rw [b_0]; exact ⟨fun q => (by cases q), fun q => absurd q.1 (Nat.not_lt_zero _)⟩
    | succ m ih =>
      intro hm
      rw [L1_X10_whoseTaleIs, L1_X10_whoseTaleIss]
      by_cases c : F_X10_taleOf nw m ta = h
      · rw [if_pos c, b_orsh (by omega) ho, ih (by omega)]
        constructor
        · intro q
          rcases q with q | q
          · exact ⟨by omega, q.2⟩
          · subst q; exact ⟨Nat.lt_succ_self _, c⟩
        · intro q
          by_cases z : o = m
          · exact Or.inr z
          · exact Or.inl ⟨by omega, q.2⟩
      · rw [if_neg c, ih (by omega)]
        refine ⟨fun q => ⟨by omega, q.2⟩, fun q => ⟨?_, q.2⟩⟩
        by_cases z : o = m
        · subst z; exact absurd q.2 c
        · omega
  exact e p (Nat.le_refl _)
theorem who_bit {kN : Nat → Int32} {nw o : Nat} (hn : nw < 32) (ho : o < 32) : bt (F_X1_whoKnows kN nw) o = true ↔ o < 7 ∧ bt (kN o) nw = true := by
  have e : ∀ m : Nat, m ≤ 7 → (bt (L1_X1_peopleOfNews kN nw 0 m) o = true ↔ o < m ∧ bt (kN o) nw = true) := by
    intro m
    induction m with
    | zero => intro _; show bt 0 o = true ↔ _; rw [b_0]; exact ⟨fun q => (by cases q), fun q => absurd q.1 (Nat.not_lt_zero _)⟩
    | succ m ih =>
      intro hm
      rw [L1_X1_peopleOfNews, L1_X1_peopleOfNewss]
      by_cases c : hasv (kN m) (nI nw) = 0
      · rw [if_pos c, ih (by omega)]
        refine ⟨fun q => ⟨by omega, q.2⟩, fun q => ⟨?_, q.2⟩⟩
        by_cases z : o = m
        · subst z; have := (hvb_0 hn).mp c; rw [this] at q; exact absurd q.2 (by decide)
        · omega
      · rw [if_neg c, b_orsh (by omega) ho, ih (by omega)]
        constructor
        · intro q
          rcases q with q | q
          · exact ⟨by omega, q.2⟩
          · subst q; exact ⟨Nat.lt_succ_self _, (bt_hasv hn).mp c⟩
        · intro q
          by_cases z : o = m
          · exact Or.inr z
          · exact Or.inl ⟨by omega, q.2⟩
  exact e 7 (Nat.le_refl _)
/-- the first hour from which one knows it; 25: none -/
def fsT (K : Nat → Bool) : Nat → Nat → Nat
  | 0, j => j
  | m + 1, j => if K j = true then j else fsT K m (j + 1)
/-- whom the class keeps open, whom it finds wrong, after so many hours -/
theorem fits_abs {p : Nat} {T : Nat → Int32} {K : Nat → Nat → Bool} {Wf Of who whose : Nat → Int32} (hp : p ≤ 7) (h0 : Wf 0 = 0) (h1 : ∀ o : Nat, o < 32 → (bt (Of 0) o = true ↔ o < p ∧ ¬ T o = -1)) (hw : ∀ j : Nat, j < 25 → Wf (j + 1) = Wf j ||| ((Of j &&& who j) &&& (whose j ^^^ (-1 : Int32)))) (ho : ∀ j : Nat, j < 25 → Of (j + 1) = Of j &&& ((Of j &&& who j) ^^^ (-1 : Int32))) (k : ∀ j : Nat, j < 25 → ∀ o : Nat, o < p → bt (who j) o = K j o) (t : ∀ j : Nat, j < 25 → ∀ o : Nat, o < 32 → (bt (whose j) o = true ↔ o < p ∧ T o = nI j)) : ∀ j : Nat, j ≤ 25 → ∀ o : Nat, o < 32 → (bt (Of j) o = true ↔ o < p ∧ ¬ T o = -1 ∧ ∀ i : Nat, i < j → K i o = false) ∧ (bt (Wf j) o = true ↔ o < p ∧ ¬ T o = -1 ∧ ∃ i : Nat, i < j ∧ K i o = true ∧ (∀ i' : Nat, i' < i → K i' o = false) ∧ ¬ T o = nI i)
  | 0, _, o, hlt => ⟨(h1 o hlt).trans ⟨fun q => ⟨q.1, q.2, fun i hi => absurd hi (Nat.not_lt_zero _)⟩, fun q => ⟨q.1, q.2.1⟩⟩, by rw [h0, b_0]; exact ⟨fun q => (by cases q), fun q => by obtain ⟨_, _, i, hi, _⟩ := q; exact absurd hi (Nat.not_lt_zero _)⟩⟩
  | j + 1, hj, o, hlt => by
    obtain ⟨iO, iW⟩ := fits_abs hp h0 h1 hw ho k t j (by omega) o hlt
    have ht := t j (by omega) o hlt
    have bO : bt (Of (j + 1)) o = (bt (Of j) o && !(bt (Of j) o && bt (who j) o)) := by rw [ho j (by omega), b_and, b_nt _ hlt, b_and]
    have bW : bt (Wf (j + 1)) o = (bt (Wf j) o || ((bt (Of j) o && bt (who j) o) && !bt (whose j) o)) := by rw [hw j (by omega), b_or, b_and, b_and, b_nt _ hlt]
    constructor
    · rw [bO]
      constructor
      · intro q
        cases c1 : bt (Of j) o with
        | false => rw [c1] at q; cases q
        | true =>
          obtain ⟨q1, q2, q3⟩ := iO.mp c1
          rw [c1, k j (by omega) o q1] at q
          refine ⟨q1, q2, fun i hi => ?_⟩
          by_cases e : i = j
          · subst e
            cases z : K i o with
            | false => rfl
            | true => rw [z] at q; cases q
          · exact q3 i (by omega)
      · intro q
        have c1 : bt (Of j) o = true := iO.mpr ⟨q.1, q.2.1, fun i hi => q.2.2 i (by omega)⟩
        rw [c1, k j (by omega) o q.1, q.2.2 j (Nat.lt_succ_self _)]
        rfl
    · rw [bW]
      constructor
      · intro q
        rw [Bool.or_eq_true, Bool.and_eq_true, Bool.and_eq_true] at q
        rcases q with q | ⟨⟨q1, q2⟩, q3⟩
        · obtain ⟨a, b, i, c, d⟩ := iW.mp q
          exact ⟨a, b, i, by omega, d⟩
        · obtain ⟨a, b, c⟩ := iO.mp q1
          rw [k j (by omega) o a] at q2
          refine ⟨a, b, j, Nat.lt_succ_self _, q2, c, fun e => ?_⟩
          rw [ht.mpr ⟨a, e⟩] at q3
          cases q3
      · intro q
        obtain ⟨a, b, i, c, d, e, f⟩ := q
        rw [Bool.or_eq_true, Bool.and_eq_true, Bool.and_eq_true]
        by_cases z : i = j
        · subst z
          refine Or.inr ⟨⟨iO.mpr ⟨a, b, e⟩, by rw [k i (by omega) o a]; exact d⟩, ?_⟩
          cases y : bt (whose i) o with
          | false => rfl
          | true => exact absurd (ht.mp y).2 f
        · exact Or.inl (iW.mpr ⟨a, b, i, by omega, d, e, f⟩)
theorem fsT_at {K : Nat → Bool} : ∀ (m j : Nat), (fsT K m j = j + m ∧ (∀ i : Nat, i < m → K (j + i) = false)) ∨ ∃ d : Nat, d < m ∧ fsT K m j = j + d ∧ K (j + d) = true ∧ ∀ i : Nat, i < d → K (j + i) = false
  | 0, j => Or.inl ⟨rfl, fun i hi => absurd hi (Nat.not_lt_zero _)⟩
  | m + 1, j => by
    rw [fsT]
    by_cases c : K j = true
    · rw [if_pos c]
      exact Or.inr ⟨0, Nat.succ_pos _, rfl, c, fun i hi => absurd hi (Nat.not_lt_zero _)⟩
    · have c0 : K j = false := by
        cases h : K j with
        | false => rfl
        | true => exact absurd h c
      rw [if_neg c]
      rcases fsT_at (K := K) m (j + 1) with ⟨a, b⟩ | ⟨d, a, b, e, f⟩
      · refine Or.inl ⟨by rw [a]; omega, fun i hi => ?_⟩
        by_cases z : i = 0
        · subst z; exact c0
        · have := b (i - 1) (by omega)
          rw [show j + 1 + (i - 1) = j + i by omega] at this
          exact this
      · refine Or.inr ⟨d + 1, by omega, by rw [b]; omega, by rw [show j + (d + 1) = j + 1 + d by omega]; exact e, fun i hi => ?_⟩
        by_cases z : i = 0
        · subst z; exact c0
        · have := f (i - 1) (by omega)
          rw [show j + 1 + (i - 1) = j + i by omega] at this
          exact this
theorem bool_iff {a b : Bool} (h : a = true ↔ b = true) : a = b := by
  cases a <;> cases b
  · rfl
  · exact absurd (h.mpr rfl) (by decide)
  · exact absurd (h.mp rfl) (by decide)
  · rfl
/-- the lowest one whose tale doesn't fit -/
def ftL (T : Nat → Int32) (K : Nat → Nat → Bool) (p : Nat) : Nat → Nat → Int32
  | 0, _ => 0
  | m + 1, o => if nI p ≤ nI o then -1 else (if T o = -1 then ftL T K p m (o + 1) else (if nI (fsT (fun j => K j o) 25 0) = T o then ftL T K p m (o + 1) else nI o))
theorem low_none {s : Int32} : ∀ n o : Nat, n + o = 7 → (∀ q : Nat, o ≤ q → q < 7 → bt s q = false) → L1_X11_lowestOf s (n + 1) o = -1
  | 0, o, h, _ => by
    have : o = 7 := by omega
    subst this
    rw [L1_X11_lowestOf, if_pos (show (7 : Int32) ≤ nI 7 from Int32.le_refl _)]
  | n + 1, o, h, hz => by
    rw [L1_X11_lowestOf, if_neg (show ¬ (7 : Int32) ≤ nI o from fun q => by have := (nI_leI (a := 7) (b := o) (by omega) (by omega)).mp q; omega), if_pos ((hvb_0 (show o < 32 by omega)).mpr (hz o (Nat.le_refl _) (by omega)))]
    exact low_none n (o + 1) (by omega) fun q h1 h2 => hz q (by omega) h2
theorem low_at {s : Int32} {T : Nat → Int32} {K : Nat → Nat → Bool} {p : Nat} (hp : p ≤ 7) (hb : ∀ o : Nat, o < 7 → (bt s o = true ↔ o < p ∧ ¬ T o = -1 ∧ ¬ nI (fsT (fun j => K j o) 25 0) = T o)) : ∀ n o : Nat, n + o = p → L1_X11_lowestOf s (n + (7 - p) + 1) o = ftL T K p (n + 1) o
  | 0, o, h => by
    have : o = p := by omega
    subst this
    rw [ftL, if_pos (Int32.le_refl _)]
    exact low_none (0 + (7 - o)) o (by omega) fun q h1 h2 => by
      cases e : bt s q with
      | false => rfl
      | true => exact absurd ((hb q h2).mp e).1 (by omega)
  | n + 1, o, h => by
    have ih := low_at hp hb n (o + 1) (by omega)
    rw [show n + 1 + (7 - p) + 1 = (n + (7 - p) + 1) + 1 by omega, L1_X11_lowestOf, ftL, if_neg (show ¬ (7 : Int32) ≤ nI o from fun q => by have := (nI_leI (a := 7) (b := o) (by omega) (by omega)).mp q; omega), if_neg (show ¬ nI p ≤ nI o from fun q => by have := (nI_leI (a := p) (b := o) (by omega) (by omega)).mp q; omega)]
    have hbo := hb o (by omega)
    by_cases c1 : T o = -1
    · rw [if_pos c1, if_pos ((hvb_0 (show o < 32 by omega)).mpr (by
        cases e : bt s o with
        | false => rfl
        | true => exact absurd c1 (hbo.mp e).2.1))]
      exact ih
    · rw [if_neg c1]
      by_cases c2 : nI (fsT (fun j => K j o) 25 0) = T o
      · rw [if_pos c2, if_pos ((hvb_0 (show o < 32 by omega)).mpr (by
          cases e : bt s o with
          | false => rfl
          | true => exact absurd c2 (hbo.mp e).2.2))]
        exact ih
      · rw [if_neg c2, if_neg ((bt_hasv (show o < 32 by omega)).mpr (hbo.mpr ⟨by omega, c1, c2⟩))]
theorem ft_bits {p : Nat} {T : Nat → Int32} {K : Nat → Nat → Bool} {W O : Int32} {o : Nat} (ho : o < 32) (h25 : ¬ T o = nI 25) (iO : bt O o = true ↔ o < p ∧ ¬ T o = -1 ∧ ∀ i : Nat, i < 25 → K i o = false) (iW : bt W o = true ↔ o < p ∧ ¬ T o = -1 ∧ ∃ i : Nat, i < 25 ∧ K i o = true ∧ (∀ i' : Nat, i' < i → K i' o = false) ∧ ¬ T o = nI i) : bt (W ||| O) o = true ↔ o < p ∧ ¬ T o = -1 ∧ ¬ nI (fsT (fun j => K j o) 25 0) = T o := by
  rw [b_or, Bool.or_eq_true]
  rcases fsT_at (K := fun j => K j o) 25 0 with ⟨e, hz⟩ | ⟨d, hd, e, hk, hz⟩
  · have hz : ∀ i : Nat, i < 25 → K i o = false := fun i hi => by have := hz i hi; rwa [Nat.zero_add] at this
    rw [e]
    constructor
    · intro q
      rcases q with q | q
      · obtain ⟨_, _, i, hi, hki, _⟩ := iW.mp q
        rw [hz i hi] at hki; cases hki
      · obtain ⟨a, b, _⟩ := iO.mp q
        exact ⟨a, b, fun z => h25 z.symm⟩
    · intro q
      exact Or.inr (iO.mpr ⟨q.1, q.2.1, hz⟩)
  · rw [Nat.zero_add] at e hk
    have hz : ∀ i : Nat, i < d → K i o = false := fun i hi => by have := hz i hi; rwa [Nat.zero_add] at this
    have hk : K d o = true := hk
    rw [e]
    constructor
    · intro q
      rcases q with q | q
      · obtain ⟨a, b, i, hi, hki, hl, hn⟩ := iW.mp q
        refine ⟨a, b, fun z => hn ?_⟩
        rcases Nat.lt_trichotomy i d with l | l | l
        · rw [hz i l] at hki; cases hki
        · rw [l]; exact z.symm
        · rw [hl d l] at hk; cases hk
      · obtain ⟨_, _, hall⟩ := iO.mp q
        rw [hall d hd] at hk; cases hk
    · intro q
      exact Or.inl (iW.mpr ⟨q.1, q.2.1, d, hd, hk, hz, fun z => q.2.2 z.symm⟩)
/-! the answer -/
abbrev ftT (v : VV) (nw : Nat) : Nat → Int32 := fun o => F_X10_taleOf nw o v.ta
abbrev ftK (v : VV) (w : PP) (nw : Nat) : Nat → Nat → Bool := fun j o => bt (kC v w 0 (-1) (7 * j + o)) nw
def ftA (np : Nat) (V : Nat → VV) (P : Nat → PP) (x y : Int32) : Int32 := if F_X12_isPlan np x = 0 then -1 else (if F_X11_isNews y = 0 then -1 else ftL (ftT (V (P (tN x)).v) (tN y)) (ftK (V (P (tN x)).v) (P (tN x)) (tN y)) (V (P (tN x)).v).p ((V (P (tN x)).v).p + 1) 0)
theorem ftA_no {np : Nat} {V : Nat → VV} {P : Nat → PP} {x y : Int32} (h : x < 0 ∨ nI np ≤ x) : ftA np V P x y = -1 := if_pos (rpl_no h)
theorem ftA_ok {np i : Nat} {V : Nat → VV} {P : Nat → PP} {y : Int32} (hn : np ≤ 12) (h : i < np) : ftA np V P (nI i) y = if F_X11_isNews y = 0 then -1 else ftL (ftT (V (P i).v) (tN y)) (ftK (V (P i).v) (P i) (tN y)) (V (P i).v).p ((V (P i).v).p + 1) 0 := by
  unfold ftA
  rw [if_neg (rpl_yes hn h), tN_nI (by omega)]
theorem ft_one {v : VV} {w : PP} {W R kN tO : Nat → Int32} {yd y : Int32} {yu : Int64} (ok : VOK v) (nl : NLP v) (hw : PWF v.p w) (hord : ORD w) (hy : tN y < 4) (h25 : ∀ j : Nat, j < 28 → ¬ v.ta j = nI 25) : F_X11_lowestOf ((L1_X11_fits1 w.c v.p v.de w.h w.k w.a w.b w.o (nwr v.kn) (nwr v.mn) (kx v) v.ta y 0 (F_X10_whoHasTale v.p (tN y) v.ta) W R kN tO yd yu 25).1 ||| (L1_X11_fits1 w.c v.p v.de w.h w.k w.a w.b w.o (nwr v.kn) (nwr v.mn) (kx v) v.ta y 0 (F_X10_whoHasTale v.p (tN y) v.ta) W R kN tO yd yu 25).2.1) = ftL (ftT v (tN y)) (ftK v w (tN y)) v.p (v.p + 1) 0 := by
  have hp := ok.1
  have bits := fits_abs (p := v.p) (T := ftT v (tN y)) (K := ftK v w (tN y))
    (Wf := fun j => (L1_X11_fits1 w.c v.p v.de w.h w.k w.a w.b w.o (nwr v.kn) (nwr v.mn) (kx v) v.ta y 0 (F_X10_whoHasTale v.p (tN y) v.ta) W R kN tO yd yu j).1)
    (Of := fun j => (L1_X11_fits1 w.c v.p v.de w.h w.k w.a w.b w.o (nwr v.kn) (nwr v.mn) (kx v) v.ta y 0 (F_X10_whoHasTale v.p (tN y) v.ta) W R kN tO yd yu j).2.1)
    (who := fun j => F_X1_whoKnows ((F_X1_carryAll (L1_X11_fits1 w.c v.p v.de w.h w.k w.a w.b w.o (nwr v.kn) (nwr v.mn) (kx v) v.ta y 0 (F_X10_whoHasTale v.p (tN y) v.ta) W R kN tO yd yu j).2.2.2.2.1 (L1_X11_fits1 w.c v.p v.de w.h w.k w.a w.b w.o (nwr v.kn) (nwr v.mn) (kx v) v.ta y 0 (F_X10_whoHasTale v.p (tN y) v.ta) W R kN tO yd yu j).2.2.2.2.2.1 w.c v.de (nI j) w.h w.k w.a w.b w.o (L1_X11_fits1 w.c v.p v.de w.h w.k w.a w.b w.o (nwr v.kn) (nwr v.mn) (kx v) v.ta y 0 (F_X10_whoHasTale v.p (tN y) v.ta) W R kN tO yd yu j).2.2.1 (L1_X11_fits1 w.c v.p v.de w.h w.k w.a w.b w.o (nwr v.kn) (nwr v.mn) (kx v) v.ta y 0 (F_X10_whoHasTale v.p (tN y) v.ta) W R kN tO yd yu j).2.2.2.1 (nwr v.kn) (nwr v.mn) (kx v)).1) (tN y))
    (whose := fun j => F_X10_whoseTaleIs v.p (tN y) (nI j) v.ta) hp rfl
    (fun o ho => by
      show bt (F_X10_whoHasTale v.p (tN y) v.ta) o = true ↔ _
      unfold F_X10_whoHasTale
      rw [b_and, b_nt _ ho, b_evy v.p (by omega) o ho, Bool.and_eq_true]
      have e := whose_bit (nw := tN y) (h := -1) (ta := v.ta) hp ho
      constructor
      · intro q
        refine ⟨of_decide_eq_true q.1, fun z => ?_⟩
        have q2 := q.2
        rw [e.mpr ⟨of_decide_eq_true q.1, z⟩] at q2
        exact absurd q2 (by decide)
      · intro q
        refine ⟨decide_eq_true q.1, ?_⟩
        cases c : bt (F_X10_whoseTaleIs v.p (tN y) (-1) v.ta) o with
        | false => rfl
        | true => exact absurd (e.mp c).2 q.2)
    (fun _ _ => rfl) (fun _ _ => rfl)
    (fun j hj o ho => bool_iff (by
      show bt (F_X1_whoKnows _ (tN y)) o = true ↔ bt (kC v w 0 (-1) (7 * j + o)) (tN y) = true
      rw [who_bit (show tN y < 32 by omega) (show o < 32 by omega), cls_all ok nl hw hord (show j ≤ 24 by omega) ho]
      exact ⟨fun q => q.2, fun q => ⟨by omega, q⟩⟩))
    (fun j hj o ho => whose_bit hp ho) 25 (Nat.le_refl _)
  have L := low_at (T := ftT v (tN y)) (K := ftK v w (tN y)) hp (fun o ho => ft_bits (show o < 32 by omega) (h25 (tN y * 7 + o) (by omega)) (bits o (by omega)).1 (bits o (by omega)).2) v.p 0 (Nat.add_zero _)
  rw [show v.p + (7 - v.p) + 1 = 7 + 1 by omega] at L
  exact L
theorem ft_cls {np i : Nat} {V : Nat → VV} {P : Nat → PP} {W R kN tO : Nat → Int32} {yd y : Int32} {yu : Int64} (hnp : np ≤ 12) (hi : i < np) (ok : VOK (V (P i).v)) (nl : NLP (V (P i).v)) (hw : PWF (V (P i).v).p (P i)) (ho : ORD (P i)) (h25 : ∀ j : Nat, j < 28 → ¬ (V (P i).v).ta j = nI 25) : (F_X11_fits1 (P i).c (V (P i).v).p (V (P i).v).de yd yu kN tO (P i).h (P i).k (P i).a (P i).b (P i).o W R (nwr (V (P i).v).kn) (nwr (V (P i).v).mn) (kx (V (P i).v)) (V (P i).v).ta y).1 = ftA np V P (nI i) y := by
  rw [ftA_ok hnp hi]
  unfold F_X11_fits1
  by_cases h2 : F_X11_isNews y = 0
  · rw [if_pos h2, if_pos h2]
  · rw [if_neg h2, if_neg h2]
    exact ft_one ok nl hw ho (nw_at h2).2 h25
theorem ft_ref {nv np : Nat} {V : Nat → VV} {P : Nat → PP} {F G : Nat → Nat → Int32} {W R aF oN fR tW : Nat → Int32} {x y : Int32} (hnv : nv ≤ 10) (hnp : np ≤ 12) (hV : RPW nv V F) (ow : ∀ i : Nat, i < nv → OWB (V i)) (hZ : PLX nv V np P) (hG : RPP np P G) : (F_X12_fits np (F 6) (F 7) (F 12) (F 13) (F 14) (F 15) (F 16) (F 17) (G 21) (G 22) (G 23) (G 24) (G 25) (G 26) W R (F 8) (F 9) (F 11) aF oN fR tW (F 61) x y).1 = ftA np V P x y := by
  rcases vin_cases (n := np) (by omega) x with hb | ⟨i, hi, rfl⟩
  · rw [ftA_no hb]
    unfold F_X12_fits
    rw [rpl_no hb, if_pos rfl]
  · rw [ftA_ok hnp hi]
    obtain ⟨hv, hw⟩ := hZ.1 i hi
    obtain ⟨g21, g22, g⟩ := hG i hi
    obtain ⟨ok, hr⟩ := hV (P i).v hv
    have hc := hw.1
    have hp := ok.1
    have hlc := ok.2.1
    have ei : tN (nI i) = i := tN_nI (by omega)
    have ev : tN (G 21 i) = (P i).v := by rw [g21, tN_nI (by omega)]
    have ec : tN (G 22 i) = (P i).c := by rw [g22, tN_nI (by omega)]
    have ep : tN (F 6 (P i).v) = (V (P i).v).p := by rw [hr.1, tN_nI (by omega)]
    have el : tN (F 7 (P i).v) = (V (P i).v).lc := by rw [hr.2.1, tN_nI (by omega)]
    unfold F_X12_fits
    rw [if_neg (rpl_yes hnp hi), show F_X12_isNews y = F_X11_isNews y from rfl]
    by_cases h2 : F_X11_isNews y = 0
    · rw [if_pos h2, if_pos h2]
    · rw [if_neg h2, if_neg h2]
      have hy := (nw_at h2).2
      have eT : ∀ o : Nat, o < 7 → F_X12_taleOf (F 61) (P i).v (tN y) o = ftT (V (P i).v) (tN y) o := fun o ho => hr.2.2.2.2.2.2 (tN y) o hy ho
      have l2 : ∀ (n j o : Nat) (k : Int32 × (Nat → Int32) × (Nat → Int32) × (Nat → Int32) × (Nat → Int32) × (Nat → Int32) × (Nat → Int32)), n + j = 25 → o < (V (P i).v).p → (L2_X12_fits (F 6) (F 7) (F 12) (F 13) (F 14) (F 15) (F 16) (F 17) (G 21) (G 22) (G 23) (G 24) (G 25) (G 26) W R (F 8) (F 9) (F 11) aF oN fR tW (F 61) (nI i) y o k (n + 1) j).1 = if nI (fsT (fun j => ftK (V (P i).v) (P i) (tN y) j o) n j) = ftT (V (P i).v) (tN y) o then k.1 else nI o := by
        intro n
        induction n with
        | zero =>
          intro j o k hj ho
          have : j = 25 := by omega
          subst this
          rw [L2_X12_fits, if_pos (show (24 : Int32) < nI 25 from (nI_ltI (a := 24) (b := 25) (by omega) (by omega)).mpr (by omega)), ei, ev, eT o (by omega), fsT]
          by_cases c : nI 25 = ftT (V (P i).v) (tN y) o
          · rw [if_pos c, if_pos c]
          · rw [if_neg c, if_neg c]
        | succ n ih =>
          intro j o k hj ho
          rw [L2_X12_fits, if_neg (fun q => by have := (nI_ltI (a := 24) (b := j) (by omega) (by omega)).mp q; omega), ei, ev, ec, ep, el, eT o (by omega), ref_all ok (ow _ hv) (hZ.2.2 _ hv) hr hw g (show j ≤ 24 by omega) ho, fsT]
          have hb := shr_0 (x := kC (V (P i).v) (P i) 0 (-1) (7 * j + o)) (b := tN y) (by omega)
          by_cases c : ftK (V (P i).v) (P i) (tN y) j o = true
          · rw [if_neg (fun q => by
            have c : bt (kC (V (P i).v) (P i) 0 (-1) (7 * j + o)) (tN y) = true := c
            rw [hb.mp q] at c
            cases c), if_pos c]
            by_cases d : nI j = ftT (V (P i).v) (tN y) o
            · rw [if_pos d, if_pos d]
            · rw [if_neg d, if_neg d]
          · rw [if_pos (hb.mpr (by
              cases e : bt (kC (V (P i).v) (P i) 0 (-1) (7 * j + o)) (tN y) with
              | false => rfl
              | true => exact absurd e c)), if_neg c]
            exact ih (j + 1) o k (by omega) ho
      have l1 : ∀ m o : Nat, o ≤ (V (P i).v).p → (L1_X12_fits (F 6) (F 7) (F 12) (F 13) (F 14) (F 15) (F 16) (F 17) (G 21) (G 22) (G 23) (G 24) (G 25) (G 26) W R (F 8) (F 9) (F 11) aF oN fR tW (F 61) (nI i) y m o).1 = ftL (ftT (V (P i).v) (tN y)) (ftK (V (P i).v) (P i) (tN y)) (V (P i).v).p m o := by
        intro m
        induction m with
        | zero => intro o _; rfl
        | succ m ih =>
          intro o hop
          rw [L1_X12_fits, ftL, ei, ev, ep]
          by_cases c : nI (V (P i).v).p ≤ nI o
          · rw [if_pos c, if_pos c]
          · have hb : o < (V (P i).v).p := Nat.lt_of_le_of_ne hop fun q => c (by rw [q]; exact Int32.le_refl _)
            have i1 := ih (o + 1) (by omega)
            rw [if_neg c, if_neg c, eT o (by omega)]
            by_cases d : ftT (V (P i).v) (tN y) o = -1
            · rw [if_pos d, if_pos d]
              exact i1
            · rw [if_neg d, if_neg d, l2 25 0 o _ (by omega) hb, i1]
      rw [ei, ev, ep]
      exact l1 _ 0 (Nat.zero_le _)

/-! news carried: the reference -/
theorem upd_same {f : Nat → Int32} {k : Nat} : upd f k (f k) = f := by
  funext j
  by_cases e : j = k
  · subst e; rw [upd_eq]
  · rw [upd_ne e]
def rtF (d : Bool) (A O tw fr nw : Int32) : Int32 := fr ||| (bif d then hrd A nw &&& (O ||| tw) else hrd A nw)
def rtT (d : Bool) (A tw nw : Int32) : Int32 := bif d then tw ||| hrd A nw else tw
theorem rtF_0 {d : Bool} {A O tw fr : Int32} : rtF d A O tw fr 0 = fr := by
  unfold rtF
  rw [hrd_0]
  cases d with
  | false => exact or_0 fr
  | true => exact b_ext fun i _ => by rw [cond_true, b_or, b_and, b_0, Bool.false_and, Bool.or_false]
theorem rtT_0 {d : Bool} {A tw : Int32} : rtT d A tw 0 = tw := by
  unfold rtT
  rw [hrd_0]
  cases d with
  | false => rfl
  | true => exact or_0 tw
theorem tells_eq {rD aF oN fR tW : Nat → Int32} {v9 hr to : Nat} {nw : Int32} (ht : to < 32) : F_X12_tells rD aF oN fR tW v9 hr nw to = (upd fR to (rtF (bt (rD v9) to) (aF (7 * hr + to)) (oN (7 * hr + to)) (tW to) (fR to) nw), upd tW to (rtT (bt (rD v9) to) (aF (7 * hr + to)) (tW to) nw)) := by
  unfold F_X12_tells rtF rtT hrd
  rw [Nat.add_sub_cancel]
  cases hd : bt (rD v9) to with
  | false =>
    rw [if_pos ((shr_0 ht).mpr hd)]
    simp only [cond_false]
    rw [upd_same]
  | true =>
    rw [if_neg (fun q => by rw [(shr_0 ht).mp q] at hd; cases hd)]
    rfl
section
variable {rD rS aF oN G24 G25 R : Nat → Int32} {v9 i j t : Nat} {wo : Int32} {w : PP}
/-- the reference's row of an hour -/
abbrev hw7 (f : Nat → Int32) (j : Nat) : Nat → Int32 := fun x => f (7 * j + x)
theorem L6_shout (c : CKO w R t) (g4 : G24 (40 * i + t) = w.k t) (g5 : G25 (40 * i + t) = w.a t) (hk : w.k t = 3) (fr tw : Nat → Int32) : ∀ m : Nat, m ≤ 7 → ∀ x : Nat, (L6_X12_carry rD rS G24 G25 R i v9 wo j aF oN t fr tw m).1 x = (if x < m ∧ inS (R t) wo x then rtF (bt (rD v9) x) (hw7 aF j x) (hw7 oN j x) (tw x) (fr x) (hw7 aF j (tN (w.a t))) else fr x) ∧ (L6_X12_carry rD rS G24 G25 R i v9 wo j aF oN t fr tw m).2 x = (if x < m ∧ inS (R t) wo x then rtT (bt (rD v9) x) (hw7 aF j x) (tw x) (hw7 aF j (tN (w.a t))) else tw x)
  | 0, _, x => ⟨(if_neg (fun q => absurd q.1 (Nat.not_lt_zero _))).symm, (if_neg (fun q => absurd q.1 (Nat.not_lt_zero _))).symm⟩
  | m + 1, hm, x => by
    have ih := L6_shout c g4 g5 hk fr tw m (by omega)
    have e : L6_X12_carry rD rS G24 G25 R i v9 wo j aF oN t fr tw (m + 1) = L6_X12_carrys rD rS G24 G25 R i v9 wo j aF oN t m (L6_X12_carry rD rS G24 G25 R i v9 wo j aF oN t fr tw m).1 (L6_X12_carry rD rS G24 G25 R i v9 wo j aF oN t fr tw m).2 := rfl
    rw [e]
    generalize L6_X12_carry rD rS G24 G25 R i v9 wo j aF oN t fr tw m = s at ih
    have skip : ¬ inS (R t) wo m → s.1 x = (if x < m + 1 ∧ inS (R t) wo x then rtF (bt (rD v9) x) (hw7 aF j x) (hw7 oN j x) (tw x) (fr x) (hw7 aF j (tN (w.a t))) else fr x) ∧ s.2 x = (if x < m + 1 ∧ inS (R t) wo x then rtT (bt (rD v9) x) (hw7 aF j x) (tw x) (hw7 aF j (tN (w.a t))) else tw x) := fun hn => by
      have c : (x < m ∧ inS (R t) wo x) ↔ (x < m + 1 ∧ inS (R t) wo x) := ⟨fun q => ⟨by omega, q.2⟩, fun q => ⟨by
        rcases Nat.lt_or_ge x m with l | l
        · exact l
        · have : x = m := by omega
          subst this
          exact absurd q.2 hn, q.2⟩⟩
      rw [(ih x).1, (ih x).2]
      exact ⟨ite_iff c _ _, ite_iff c _ _⟩
    unfold L6_X12_carrys
    rw [g4, g5]
    by_cases h1 : (R t >>> (nI m &&& 31)) &&& (1 : Int32) = 0
    · rw [if_pos h1]
      exact skip (fun q => by have h := q.1; rw [(shr_0 (show m < 32 by omega)).mp h1] at h; cases h)
    · rw [if_neg h1]
      by_cases h2 : nI m = wo
      · rw [if_pos h2]
        exact skip (fun q => q.2 h2)
      · have n0 : ¬ w.k t = 0 := by rw [hk]; decide
        have n1 : ¬ w.k t = 1 := by rw [hk]; decide
        rw [if_neg h2, if_neg n0, if_neg n1, if_pos hk]
        have hS : inS (R t) wo m := ⟨by
          cases q : bt (R t) m with
          | true => rfl
          | false => exact absurd ((shr_0 (by omega)).mpr q) h1, h2⟩
        have em : s.1 m = fr m ∧ s.2 m = tw m := by rw [(ih m).1, (ih m).2, if_neg (fun q => absurd q.1 (Nat.lt_irrefl _)), if_neg (fun q => absurd q.1 (Nat.lt_irrefl _))]; exact ⟨rfl, rfl⟩
        rw [tells_eq (show m < 32 by omega), em.1, em.2, Nat.add_sub_cancel]
        show upd s.1 m _ x = _ ∧ upd s.2 m _ x = _
        by_cases q : x = m
        · subst q
          rw [upd_eq, upd_eq, if_pos ⟨Nat.lt_succ_self _, hS⟩, if_pos ⟨Nat.lt_succ_self _, hS⟩]; exact ⟨rfl, rfl⟩
        · rw [upd_ne q, upd_ne q, (ih x).1, (ih x).2]
          have c : (x < m ∧ inS (R t) wo x) ↔ (x < m + 1 ∧ inS (R t) wo x) := ⟨fun z => ⟨by omega, z.2⟩, fun z => ⟨by omega, z.2⟩⟩
          exact ⟨ite_iff c _ _, ite_iff c _ _⟩
/-- one called alone -/
theorem L6_one {b : Nat} (hb : b < 32) (hR : ∀ o : Nat, o < 32 → (bt (R t) o = true ↔ o = b)) (fr tw : Nat → Int32) : ∀ m : Nat, m ≤ 7 → L6_X12_carry rD rS G24 G25 R i v9 wo j aF oN t fr tw m = if b < m then L6_X12_carrys rD rS G24 G25 R i v9 wo j aF oN t b fr tw else (fr, tw)
  | 0, _ => (if_neg (Nat.not_lt_zero _)).symm
  | m + 1, hm => by
    have ih := L6_one hb hR fr tw m (by omega)
    have e : L6_X12_carry rD rS G24 G25 R i v9 wo j aF oN t fr tw (m + 1) = L6_X12_carrys rD rS G24 G25 R i v9 wo j aF oN t m (L6_X12_carry rD rS G24 G25 R i v9 wo j aF oN t fr tw m).1 (L6_X12_carry rD rS G24 G25 R i v9 wo j aF oN t fr tw m).2 := rfl
    rw [e, ih]
    have off : ∀ s : (Nat → Int32) × (Nat → Int32), ¬ m = b → L6_X12_carrys rD rS G24 G25 R i v9 wo j aF oN t m s.1 s.2 = s := fun s hn => by
      unfold L6_X12_carrys
      rw [if_pos ((shr_0 (show m < 32 by omega)).mpr (by
        cases q : bt (R t) m with
        | false => rfl
        | true => exact absurd ((hR m (by omega)).mp q) hn))]
    rcases Nat.lt_trichotomy b m with l | l | l
    · rw [if_pos l, if_pos (show b < m + 1 by omega)]; exact off _ (by omega)
    · subst l; rw [if_neg (Nat.lt_irrefl _), if_pos (Nat.lt_succ_self _)]
    · rw [if_neg (show ¬ b < m by omega), if_neg (show ¬ b < m + 1 by omega)]; exact off (fr, tw) (by omega)
/-- one call in the reference -/
theorem L6_at {p : Nat} (c : CKO w R t) (g4 : G24 (40 * i + t) = w.k t) (g5 : G25 (40 * i + t) = w.a t) (hp : p ≤ 7) (hin : ∀ o : Nat, o < 32 → bt (R t) o = true → o < p) (hR : ¬ w.k t = 3 → ∀ o : Nat, o < 32 → (bt (R t) o = true ↔ o = tN (w.b t))) (c0 : ¬ w.a t = wo) (fr tw : Nat → Int32) (x : Nat) (hx : x < 7) : (L6_X12_carry rD rS G24 G25 R i v9 wo j aF oN t fr tw p).1 x = rtF (bt (rD v9) x) (hw7 aF j x) (hw7 oN j x) (tw x) (fr x) (nwT w (R t) (fun x => F_X12_notFor rS v9 x) wo (hw7 aF j) t x) ∧ (L6_X12_carry rD rS G24 G25 R i v9 wo j aF oN t fr tw p).2 x = rtT (bt (rD v9) x) (hw7 aF j x) (tw x) (nwT w (R t) (fun x => F_X12_notFor rS v9 x) wo (hw7 aF j) t x) := by
  have zero : ∀ nw : Int32, nw = 0 → fr x = rtF (bt (rD v9) x) (hw7 aF j x) (hw7 oN j x) (tw x) (fr x) nw ∧ tw x = rtT (bt (rD v9) x) (hw7 aF j x) (tw x) nw := fun nw e => by
    subst e; rw [rtF_0, rtT_0]; exact ⟨rfl, rfl⟩
  have ha := c.ha
  unfold nwT
  simp only [if_neg c0]
  by_cases c3 : w.k t = 3
  · simp only [if_pos c3]
    have h := L6_shout (rD := rD) (rS := rS) (aF := aF) (oN := oN) (v9 := v9) (j := j) (wo := wo) c g4 g5 c3 fr tw p hp x
    rw [h.1, h.2]
    by_cases q : inS (R t) wo x
    · simp only [if_pos q, if_pos (And.intro (hin x (by omega) q.1) q)]
      exact ⟨trivial, trivial⟩
    · simp only [if_neg q, if_neg (fun z : x < p ∧ inS (R t) wo x => q z.2)]
      exact zero 0 rfl
  simp only [if_neg c3]
  obtain ⟨eb, hb7, hne⟩ := c.hb c3
  have hbp : tN (w.b t) < p := hin _ (by omega) ((hR c3 _ (by omega)).mpr rfl)
  rw [L6_one (show tN (w.b t) < 32 by omega) (hR c3) fr tw p hp, if_pos hbp]
  unfold L6_X12_carrys
  rw [if_neg (show ¬ (R t >>> (nI (tN (w.b t)) &&& 31)) &&& (1 : Int32) = 0 from fun q => by
    have := (shr_0 (show tN (w.b t) < 32 by omega)).mp q
    rw [(hR c3 _ (by omega)).mpr rfl] at this
    cases this), ← eb, g4, g5, Nat.add_sub_cancel]
  by_cases cb : w.b t = wo
  · simp only [if_pos cb]
    exact zero 0 rfl
  simp only [if_neg cb, if_neg c3]
  have one : ∀ (o : Nat) (nw : Int32) (N : Int32), o < 7 → (x = o → N = nw) → (¬ x = o → N = 0) → (F_X12_tells rD aF oN fr tw v9 j nw o).1 x = rtF (bt (rD v9) x) (hw7 aF j x) (hw7 oN j x) (tw x) (fr x) N ∧ (F_X12_tells rD aF oN fr tw v9 j nw o).2 x = rtT (bt (rD v9) x) (hw7 aF j x) (tw x) N := fun o nw N ho h1 h2 => by
    rw [tells_eq (show o < 32 by omega)]
    show upd fr o _ x = _ ∧ upd tw o _ x = _
    by_cases q : x = o
    · rw [h1 q]; subst q; rw [upd_eq, upd_eq]; exact ⟨rfl, rfl⟩
    · rw [upd_ne q, upd_ne q]; exact zero N (h2 q)
  rcases kind_at c.hk with k | k | k | k | k
  · have n2 : ¬ w.k t = 2 := by rw [k]; decide
    have n4 : ¬ w.k t = 4 := by rw [k]; decide
    simp only [if_pos k, if_neg n2, if_neg n4]
    rw [tells_eq (rD := rD) (aF := aF) (oN := oN) (fR := fr) (tW := tw) (show tN (w.b t) < 32 by omega)]
    dsimp only
    rw [tells_eq (rD := rD) (aF := aF) (oN := oN) (show tN (w.a t) < 32 by omega)]
    rw [upd_ne hne, upd_ne hne]
    dsimp only
    by_cases q : x = tN (w.b t)
    · have q2 : ¬ x = tN (w.a t) := fun z => hne (z.symm.trans q)
      rw [upd_ne q2, upd_ne q2]
      subst q
      rw [upd_eq, upd_eq, if_pos rfl]; exact ⟨rfl, rfl⟩
    · rw [if_neg q]
      by_cases q2 : x = tN (w.a t)
      · rw [if_pos q2]; subst q2; rw [upd_eq, upd_eq]; exact ⟨rfl, rfl⟩
      · rw [if_neg q2, upd_ne q2, upd_ne q2, upd_ne q, upd_ne q]; exact zero 0 rfl
  · have n0 : ¬ w.k t = 0 := by rw [k]; decide
    have n2 : ¬ w.k t = 2 := by rw [k]; decide
    have n4 : ¬ w.k t = 4 := by rw [k]; decide
    simp only [if_neg n0, if_pos k, if_neg n2, if_neg n4]
    exact one _ _ _ hb7 (fun q => if_pos q) (fun q => by rw [if_neg q]; split <;> rfl)
  · have n0 : ¬ w.k t = 0 := by rw [k]; decide
    have n1 : ¬ w.k t = 1 := by rw [k]; decide
    simp only [if_neg n0, if_neg n1, if_pos k]
    exact one _ _ _ ha (fun q => by rw [if_neg (fun z => hne (q.symm.trans z)), if_pos q]) (fun q => by rw [if_neg q]; split <;> rfl)
  · exact absurd k c3
  · have n0 : ¬ w.k t = 0 := by rw [k]; decide
    have n1 : ¬ w.k t = 1 := by rw [k]; decide
    have n2 : ¬ w.k t = 2 := by rw [k]; decide
    simp only [if_neg n0, if_neg n1, if_neg n2, if_pos k]
    exact one _ _ _ hb7 (fun q => by rw [if_pos q, q]) (fun q => by rw [if_neg q]; split <;> rfl)
end

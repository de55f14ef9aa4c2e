/-! the class's spreading as a search by levels -/
theorem b_shl7 (x : Int32) {i : Nat} (hi : i < 32) : bt (x <<< ((7 : Int32) &&& 31)) i = (decide (7 ≤ i) && bt x (i - 7)) := b_shl 7 (by omega) x hi
theorem b_sshr7 (x : Int32) {i : Nat} (hi : i < 32) : bt (x >>> ((7 : Int32) &&& 31)) i = if 7 + i < 32 then bt x (7 + i) else bt x 31 := b_sshr 7 (by omega) x hi
theorem st_kn {k o : Int32} (hk : s7 k) : F_X7_knownIn (F_X7_state k o) = k := b_ext fun i hi => by
  show bt ((k ||| (o <<< ((7 : Int32) &&& 31))) &&& (127 : Int32)) i = bt k i
  rw [b_and, b_or, b_shl7 o hi]
  by_cases h : i < 7
  · rw [b_127t i h, decide_eq_false (by omega), Bool.false_and, Bool.or_false, Bool.and_true]
  · rw [b_127f i hi (by omega), Bool.and_false, hk i (by omega) hi]
theorem st_on {k o : Int32} (hk : s7 k) (ho : s7 o) : F_X7_onceIn (F_X7_state k o) = o := b_ext fun i hi => by
  show bt (((k ||| (o <<< ((7 : Int32) &&& 31))) >>> ((7 : Int32) &&& 31)) &&& (127 : Int32)) i = bt o i
  rw [b_and, b_sshr7 _ hi]
  by_cases h : i < 7
  · rw [b_127t i h, if_pos (by omega), b_or, b_shl7 o (by omega), hk (7 + i) (by omega) (by omega), decide_eq_true (by omega), Bool.true_and, Bool.false_or, Bool.and_true]
    rw [show 7 + i - 7 = i by omega]
  · rw [b_127f i hi (by omega), Bool.and_false, ho i (by omega) hi]
/-- a state: who knows it, and who has been told it once -/
def GS (x : Int32) : Prop := ∃ k o : Int32, s7 k ∧ s7 o ∧ k &&& o = 0 ∧ x = F_X7_state k o
theorem gs_after {zd x C : Int32} (hx : GS x) (hC : s7 C) : GS (F_X7_stateAfter zd x C) := by
  obtain ⟨k, o, hk, ho, -, rfl⟩ := hx
  refine ⟨_, _, ?_, ?_, ?_, rfl⟩
  · rw [st_kn hk]; exact s7_or hk (s7_al hC)
  · rw [st_on hk ho]; exact s7_al (s7_or ho hC)
  · refine b_ext fun i hi => ?_
    rw [b_and, b_and, b_nt _ hi, b_0]
    cases bt (F_X7_knownIn (F_X7_state k o) ||| (C &&& F_X7_understands zd (F_X7_state k o))) i <;> simp
/-! places of states -/
theorem and_nat {k o : Int32} (hk : s7 k) (ho : s7 o) (h : k &&& o = 0) : tN k &&& tN o = 0 := by
  obtain ⟨a1, a2⟩ := s7_num hk
  obtain ⟨b1, b2⟩ := s7_num ho
  rw [a1, b1, fa_and] at h
  have hl : tN k &&& tN o ≤ tN k := Nat.and_le_left
  exact (nI_eq (b := 0) (by omega) (by omega)).mp h
theorem pl_num {pw : Nat → Int32} (hpw : PWT pw) {k o : Int32} (hk : s7 k) (ho : s7 o) (h : k &&& o = 0) : F_X7_placeOf pw (F_X7_state k o) = nI (2 * pw3 7 (tN k) + pw3 7 (tN o)) ∧ 2 * pw3 7 (tN k) + pw3 7 (tN o) < 2187 := by
  have hb := pw3_in (tN k) (s7_num hk).2 (tN o) (s7_num ho).2 (and_nat hk ho h)
  refine ⟨?_, hb⟩
  unfold F_X7_placeOf
  rw [st_kn hk, st_on hk ho, hpw _ (s7_num hk).2, hpw _ (s7_num ho).2, tN_nI (by have := pw3_lt _ (s7_num hk).2; omega), tN_nI (by have := pw3_lt _ (s7_num ho).2; omega)]
  have hn : ¬ (2187 : Int32) ≤ nI (2 * pw3 7 (tN k) + pw3 7 (tN o)) := fun q => by
    have := (nI_leI (a := 2187) (b := 2 * pw3 7 (tN k) + pw3 7 (tN o)) (by omega) (by omega)).mp q
    omega
  rw [if_neg hn]
theorem s7_eq {k k2 : Int32} (h : s7 k) (h2 : s7 k2) (e : tN k = tN k2) : k = k2 := by rw [(s7_num h).1, (s7_num h2).1, e]
theorem pl_inj {pw : Nat → Int32} (hpw : PWT pw) {x y : Int32} (hx : GS x) (hy : GS y) (e : tN (F_X7_placeOf pw x) = tN (F_X7_placeOf pw y)) : x = y := by
  obtain ⟨k, o, h1, h2, h3, rfl⟩ := hx
  obtain ⟨k2, o2, g1, g2, g3, rfl⟩ := hy
  obtain ⟨p1, p2⟩ := pl_num hpw h1 h2 h3
  obtain ⟨q1, q2⟩ := pl_num hpw g1 g2 g3
  rw [p1, q1, tN_nI (by omega), tN_nI (by omega)] at e
  obtain ⟨c1, c2⟩ := pw3_inj 7 _ _ _ _ (s7_num h1).2 (s7_num h2).2 (s7_num g1).2 (s7_num g2).2 (and_nat h1 h2 h3) (and_nat g1 g2 g3) e
  rw [s7_eq h1 g1 c1, s7_eq h2 g2 c2]
theorem pl_lt {pw : Nat → Int32} (hpw : PWT pw) {x : Int32} (hx : GS x) : tN (F_X7_placeOf pw x) < 2187 := by
  obtain ⟨k, o, h1, h2, h3, rfl⟩ := hx
  obtain ⟨p1, p2⟩ := pl_num hpw h1 h2 h3
  rw [p1, tN_nI (by omega)]
  exact p2
/-! the states that are come to in so many hours stand in a list -/
def LSV (pw ct nx : Nat → Int32) (zc : Int32) (hs : Nat) (Z : Int32 → Prop) : Prop := NC zc ∧ (∀ i : Nat, i < tN zc → Z (nx i)) ∧ (∀ x : Int32, Z x → ∃ i : Nat, i < tN zc ∧ nx i = x) ∧ (∀ i j : Nat, i < tN zc → j < tN zc → nx i = nx j → i = j) ∧ ∀ q : Nat, q < 2187 → (bt (ct q) hs = true ↔ ∃ i : Nat, i < tN zc ∧ tN (F_X7_placeOf pw (nx i)) = q)
theorem LSV.iff {pw ct nx : Nat → Int32} {zc : Int32} {hs : Nat} {Z Z2 : Int32 → Prop} (h : LSV pw ct nx zc hs Z) (e : ∀ x : Int32, Z x ↔ Z2 x) : LSV pw ct nx zc hs Z2 := ⟨h.1, fun i hi => (e _).mp (h.2.1 i hi), fun x hx => h.2.2.1 x ((e x).mpr hx), h.2.2.2.1, h.2.2.2.2⟩
section
variable {pw ct nx : Nat → Int32} {zc x : Int32} {hs : Nat} {Z : Int32 → Prop}
theorem ar_LS (hpw : PWT pw) (h32 : hs < 32) (hZ : ∀ y : Int32, Z y → GS y) (hx : GS x) (h : LSV pw ct nx zc hs Z) : LSV pw (F_X7_arrive zc pw ct nx x (nI hs)).1 (F_X7_arrive zc pw ct nx x (nI hs)).2.1 (F_X7_arrive zc pw ct nx x (nI hs)).2.2 hs (fun y => Z y ∨ y = x) := by
  have h0 := h
  obtain ⟨h1, h2, h3, h4, h5⟩ := h
  have hP := pl_lt hpw hx
  unfold F_X7_arrive
  by_cases c : hasv (ct (tN (F_X7_placeOf pw x))) (nI hs) = 0
  · have hbit : ¬ bt (ct (tN (F_X7_placeOf pw x))) hs = true := fun q => (bt_hasv h32).mpr q c
    have hno : ∀ i : Nat, i < tN zc → ¬ tN (F_X7_placeOf pw (nx i)) = tN (F_X7_placeOf pw x) := fun i hi q => hbit ((h5 _ hP).mpr ⟨i, hi, q⟩)
    have hlt : tN zc < 2187 := by
      by_cases e : tN zc < 2187
      · exact e
      · exfalso
        have e2 : tN zc = 2187 := by have := h1.2; omega
        obtain ⟨i, hi, hq⟩ := fb_onto (n := 2187) (f := fun i => tN (F_X7_placeOf pw (nx i))) (fun i hi => pl_lt hpw (hZ _ (h2 i (by omega)))) (fun i j hij hj z => by
          have := h4 i j (by omega) (by omega) (pl_inj hpw (hZ _ (h2 i (by omega))) (hZ _ (h2 j (by omega))) z)
          omega) hP
        exact hno i (by omega) hq
    have hn : ¬ (2187 : Int32) ≤ nI (tN zc) := fun q => by
      have := (nI_leI (a := 2187) (b := tN zc) (by omega) (by omega)).mp q
      omega
    rw [if_pos c, if_neg hn]
    try dsimp only
    have hnew : tN (nI (tN zc + 1)) = tN zc + 1 := tN_nI (by omega)
    refine ⟨(NC_up h1 hlt).1, fun i hi => ?_, fun y hy => ?_, fun i j hi hj e => ?_, fun q hq => ?_⟩
    · rw [hnew] at hi
      by_cases e : i = tN zc
      · rw [e, upd_eq]; exact Or.inr rfl
      · rw [upd_ne e]; exact Or.inl (h2 i (by omega))
    · rw [hnew]
      rcases hy with hy | hy
      · obtain ⟨i, hi, q⟩ := h3 y hy
        exact ⟨i, by omega, by rw [upd_ne (by omega)]; exact q⟩
      · exact ⟨tN zc, by omega, by rw [upd_eq]; exact hy.symm⟩
    · rw [hnew] at hi hj
      have hne : ∀ k : Nat, k < tN zc → ¬ nx k = x := fun k hk q => hno k hk (by rw [q])
      by_cases ei : i = tN zc
      · by_cases ej : j = tN zc
        · rw [ei, ej]
        · exfalso
          rw [ei, upd_eq, upd_ne ej] at e
          exact hne j (by omega) e.symm
      · by_cases ej : j = tN zc
        · exfalso
          rw [ej, upd_eq, upd_ne ei] at e
          exact hne i (by omega) e
        · rw [upd_ne ei, upd_ne ej] at e
          exact h4 i j (by omega) (by omega) e
    · have hb : bt (upd ct (tN (F_X7_placeOf pw x)) (ct (tN (F_X7_placeOf pw x)) ||| ((1 : Int32) <<< (nI hs &&& 31))) q) hs = true ↔ (∃ i : Nat, i < tN zc ∧ tN (F_X7_placeOf pw (nx i)) = q) ∨ q = tN (F_X7_placeOf pw x) := by
        rw [b_upd h32 h32, decide_eq_true (rfl : hs = hs), Bool.and_true, Bool.or_eq_true]
        exact or_congr (h5 q hq) ⟨fun z => of_decide_eq_true z, fun z => decide_eq_true z⟩
      rw [hnew]
      refine hb.trans ?_
      constructor
      · rintro (⟨i, hi, e⟩ | e)
        · exact ⟨i, by omega, by rw [upd_ne (by omega)]; exact e⟩
        · exact ⟨tN zc, by omega, by rw [upd_eq]; exact e.symm⟩
      · rintro ⟨i, hi, e⟩
        by_cases ei : i = tN zc
        · rw [ei, upd_eq] at e
          exact Or.inr e.symm
        · rw [upd_ne ei] at e
          exact Or.inl ⟨i, by omega, e⟩
  · rw [if_neg c]
    obtain ⟨i, hi, e⟩ := (h5 _ hP).mp ((bt_hasv h32).mp c)
    have ex := pl_inj hpw (hZ _ (h2 i hi)) hx e
    refine h0.iff fun y => ⟨Or.inl, fun q => q.elim id fun q => ?_⟩
    rw [q, ← ex]
    exact h2 i hi
theorem ar_bits (h32 : hs < 32) {q t : Nat} (ht : t < 32) (hne : ¬ t = hs) : bt ((F_X7_arrive zc pw ct nx x (nI hs)).1 q) t = bt (ct q) t := by
  unfold F_X7_arrive
  split
  · split
    · rfl
    · show bt (upd ct _ _ q) t = _
      rw [b_upd h32 ht, decide_eq_false hne, Bool.and_false, Bool.or_false]
  · rfl
end
section
variable {pw S : Nat → Int32} {zd x fo : Int32} {hs : Nat}
theorem ab_LS (hpw : PWT pw) (h32 : hs < 32) (hx : GS x) {Z : Int32 → Prop} {ct nx : Nat → Int32} {zc : Int32} (hZ : ∀ y : Int32, Z y → GS y) (h : LSV pw ct nx zc hs Z) : ∀ k : Nat, (∀ i : Nat, i < k → s7 (S i)) → LSV pw (L1_X7_arriveByAll zd pw S x (nI hs) fo ct nx zc k).1 (L1_X7_arriveByAll zd pw S x (nI hs) fo ct nx zc k).2.1 (L1_X7_arriveByAll zd pw S x (nI hs) fo ct nx zc k).2.2 hs (fun y => Z y ∨ ∃ i : Nat, i < k ∧ fo &&& (S i ^^^ (-1 : Int32)) = 0 ∧ y = F_X7_stateAfter zd x (S i)) ∧ ∀ q t : Nat, t < 32 → ¬ t = hs → bt ((L1_X7_arriveByAll zd pw S x (nI hs) fo ct nx zc k).1 q) t = bt (ct q) t
  | 0, _ => ⟨h.iff fun y => ⟨Or.inl, fun q => q.elim id fun ⟨_, z, _⟩ => absurd z (Nat.not_lt_zero _)⟩, fun _ _ _ _ => rfl⟩
  | k + 1, hS => by
    obtain ⟨ih, ib⟩ := ab_LS hpw h32 hx hZ h k fun i hi => hS i (by omega)
    have hZ2 : ∀ y : Int32, (Z y ∨ ∃ i : Nat, i < k ∧ fo &&& (S i ^^^ (-1 : Int32)) = 0 ∧ y = F_X7_stateAfter zd x (S i)) → GS y := fun y hy => hy.elim (hZ y) fun ⟨i, hi, _, e⟩ => by rw [e]; exact gs_after hx (hS i (by omega))
    have e : L1_X7_arriveByAll zd pw S x (nI hs) fo ct nx zc (k + 1) = L1_X7_arriveByAlls zd pw S x (nI hs) fo k (L1_X7_arriveByAll zd pw S x (nI hs) fo ct nx zc k).1 (L1_X7_arriveByAll zd pw S x (nI hs) fo ct nx zc k).2.1 (L1_X7_arriveByAll zd pw S x (nI hs) fo ct nx zc k).2.2 := rfl
    rw [e]
    generalize L1_X7_arriveByAll zd pw S x (nI hs) fo ct nx zc k = u at ih ib ⊢
    by_cases c : fo &&& (S k ^^^ (-1 : Int32)) = 0
    · have e2 : L1_X7_arriveByAlls zd pw S x (nI hs) fo k u.1 u.2.1 u.2.2 = F_X7_arrive u.2.2 pw u.1 u.2.1 (F_X7_stateAfter zd x (S k)) (nI hs) := by rw [L1_X7_arriveByAlls, if_pos c] <;> rfl
      rw [e2]
      refine ⟨(ar_LS hpw h32 hZ2 (gs_after hx (hS k (by omega))) ih).iff fun y => ?_, fun q t ht hne => (ar_bits h32 ht hne).trans (ib q t ht hne)⟩
      constructor
      · rintro ((a | ⟨i, hi, c2, a⟩) | a)
        · exact Or.inl a
        · exact Or.inr ⟨i, by omega, c2, a⟩
        · exact Or.inr ⟨k, by omega, c, a⟩
      · rintro (a | ⟨i, hi, c2, a⟩)
        · exact Or.inl (Or.inl a)
        · by_cases y2 : i = k
          · exact Or.inr (by rw [a, y2])
          · exact Or.inl (Or.inr ⟨i, by omega, c2, a⟩)
    · have e2 : L1_X7_arriveByAlls zd pw S x (nI hs) fo k u.1 u.2.1 u.2.2 = (u.1, u.2.1, u.2.2) := by rw [L1_X7_arriveByAlls, if_neg c]
      rw [e2]
      refine ⟨ih.iff fun y => ?_, ib⟩
      refine or_congr Iff.rfl ⟨?_, ?_⟩
      · rintro ⟨i, hi, c2, a⟩
        exact ⟨i, by omega, c2, a⟩
      · rintro ⟨i, hi, c2, a⟩
        by_cases y2 : i = k
        · exact absurd (by rw [← y2]; exact c2) c
        · exact ⟨i, by omega, c2, a⟩
end
/-! the rows of an hour, from a state on -/
def chX (cA : Nat → Int32) (x : Int32) (ho : Nat) (tg : Int32) (o : Nat) : Int32 := if hasv (F_X7_knownIn x) (nI o) = 0 then 0 else (cA (ho * 7 + o) &&& tg) &&& (F_X7_knownIn x ^^^ (-1 : Int32))
def SetOf (p : Nat) (ch : Nat → Int32) (s : Int32) : Prop := ∃ r : Nat → Nat, RWp p ch p r ∧ rmax p ch r ∧ rset r p = s
theorem SetOf.s7 {p : Nat} {ch : Nat → Int32} {s : Int32} (hp : p ≤ 7) (h : SetOf p ch s) : s7 s := by
  obtain ⟨r, h1, -, rfl⟩ := h
  exact rset_7 fun a ha => h1.le hp ha
theorem SetOf.cong {p : Nat} {ch ch2 : Nat → Int32} {s : Int32} (h : SetOf p ch s) (e : ∀ a : Nat, a < p → ch2 a = ch a) : SetOf p ch2 s := by
  obtain ⟨r, h1, h2, h3⟩ := h
  refine ⟨r, fun a ha => ?_, fun a ha q => ?_, h3⟩
  · rw [e a ha]; exact h1 a ha
  · rw [e a ha]; exact h2 a ha q
theorem fr_at {cA fC : Nat → Int32} {x tg : Int32} {ho : Nat} : ∀ k o : Nat, o < k → L1_X7_findRows cA x ho tg fC k o = chX cA x ho tg o
  | 0, o, h => absurd h (Nat.not_lt_zero _)
  | k + 1, o, h => by
    have e : L1_X7_findRows cA x ho tg fC (k + 1) = upd (L1_X7_findRows cA x ho tg fC k) k (chX cA x ho tg k) := by
      show L1_X7_findRowss cA x ho tg k (L1_X7_findRows cA x ho tg fC k) = _
      unfold L1_X7_findRowss chX
      by_cases c : hasv (F_X7_knownIn x) (nI k) = 0
      · rw [if_pos c, if_pos c]; exact rfl
      · rw [if_neg c, if_neg c]; exact rfl
    rw [e]
    by_cases q : o = k
    · rw [q, upd_eq]
    · rw [upd_ne q]; exact fr_at k o (by omega)
theorem fR_sets {p ho : Nat} {cA S O M fC : Nat → Int32} {n x tg : Int32} (hp : p ≤ 7) (h : RI S M n) : (∀ i : Nat, i < tN (F_X7_findRows p cA S O M fC n x ho tg).2.2.2.2 → SetOf p (chX cA x ho tg) ((F_X7_findRows p cA S O M fC n x ho tg).1 i)) ∧ ∀ s : Int32, SetOf p (chX cA x ho tg) s → ∃ i : Nat, i < tN (F_X7_findRows p cA S O M fC n x ho tg).2.2.2.2 ∧ (F_X7_findRows p cA S O M fC n x ho tg).1 i = s := by
  have hI := RI_rows (cA := cA) (O := O) (C := fC) (x := x) (ho := ho) (tg := tg) hp h
  have hset : ∀ s : Nat, s < 128 → (¬ (F_X7_findRows p cA S O M fC n x ho tg).2.2.1 s = 0 ↔ SetOf p (chX cA x ho tg) (nI s)) := fun s hs => by
    have q := FA_set (C := L1_X7_findRows cA x ho tg fC p) hp 8 0 (by omega) (Nat.zero_le _) (fun _ => 7) (fun a ha => absurd ha (Nat.not_lt_zero _)) S O (F_X5_forget S M n) 0 (RI_forget h) s hs
    refine Iff.trans (show ¬ (F_X7_findRows p cA S O M fC n x ho tg).2.2.1 s = 0 ↔ ¬ F_X5_forget S M n s = 0 ∨ ExR p (L1_X7_findRows cA x ho tg fC p) 0 (fun _ => 7) s from q) ⟨?_, ?_⟩
    · rintro (a | ⟨r, a1, -, a3, a4⟩)
      · exact absurd (fg_0 h hs) a
      · exact SetOf.cong ⟨r, a1, a3, a4⟩ fun a ha => (fr_at p a ha).symm
    · rintro a
      obtain ⟨r, a1, a3, a4⟩ := a.cong (ch2 := L1_X7_findRows cA x ho tg fC p) fun a ha => fr_at p a ha
      exact Or.inr ⟨r, a1, fun a ha => absurd ha (Nat.not_lt_zero _), a3, a4⟩
  refine ⟨fun i hi => ?_, fun s hs => ?_⟩
  · obtain ⟨e1, e2⟩ := hI.2.2.1 i hi
    rw [e1]
    exact (hset _ e2).mp ((hI.2.2.2.2 _ e2).mpr ⟨i, hi, e1⟩)
  · obtain ⟨e1, e2⟩ := s7_num (hs.s7 hp)
    obtain ⟨i, hi, q⟩ := (hI.2.2.2.2 _ e2).mp ((hset _ e2).mpr (by rw [← e1]; exact hs))
    exact ⟨i, hi, by rw [q, ← e1]⟩

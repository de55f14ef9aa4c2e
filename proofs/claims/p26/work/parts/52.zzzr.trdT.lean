/-! trade: least costs by hours, on both sides -/
/-- what can be come to: after so many hours, with so many calls -/
def TP (O : Nat → Nat → Prop) (s0 : Int32) : Nat → Int32 → Nat → Prop
  | 0 => fun t k => t = s0 ∧ k = 0
  | h + 1 => fun t k => TP O s0 h t k ∨ (∃ (s : Int32) (c j : Nat), TP O s0 h s j ∧ c < 6 ∧ O (h + 1) c ∧ t = F_X9_join s c ∧ k = j + 1) ∨ ∃ (s : Int32) (c j : Nat), TP O s0 h s j ∧ c < 6 ∧ O (h + 1) c ∧ O (h + 1) (5 - c) ∧ t = F_X9_join (F_X9_join s c) (5 - c) ∧ k = j + 2
/-- a row of calls behind each other of one hour, over a part of the states and couples -/
def T1 (O : Nat → Prop) (P : Int32 → Nat → Prop) (t : Int32) (k : Nat) : Prop := (∃ (s : Int32) (c j : Nat), P s j ∧ c < 6 ∧ O c ∧ t = F_X9_join s c ∧ k = j + 1) ∨ ∃ (s : Int32) (c j : Nat), P s j ∧ c < 6 ∧ O c ∧ O (5 - c) ∧ t = F_X9_join (F_X9_join s c) (5 - c) ∧ k = j + 2
/-- the least number with a property; far where there is none -/
def MFr (far : Int32) (P : Nat → Prop) (v : Int32) : Prop := (v = far ∧ ∀ n : Nat, ¬ P n) ∨ ∃ n : Nat, n ≤ 16 ∧ v = nI n ∧ P n ∧ ∀ k : Nat, k < n → ¬ P k
theorem MFr.iff {far : Int32} {P P2 : Nat → Prop} {v : Int32} (h : MFr far P v) (e : ∀ n : Nat, P n ↔ P2 n) : MFr far P2 v := by
  rcases h with ⟨a1, a2⟩ | ⟨n, a1, a2, a3, a4⟩
  · exact Or.inl ⟨a1, fun n q => a2 n ((e n).mpr q)⟩
  · exact Or.inr ⟨n, a1, a2, (e n).mp a3, fun k hk q => a4 k hk ((e k).mpr q)⟩
/-- with a further number -/
theorem MFr.put {far : Int32} (hf : ∀ n : Nat, n ≤ 18 → nI n < far) {P : Nat → Prop} {v : Int32} (h : MFr far P v) {k : Nat} (hk : k ≤ 16) : MFr far (fun n => P n ∨ n = k) (mn2 v (nI k)) := by
  unfold mn2
  rcases h with ⟨a1, a2⟩ | ⟨n, a1, a2, a3, a4⟩
  · rw [a1, if_pos (hf k (by omega))]
    exact Or.inr ⟨k, hk, rfl, Or.inr rfl, fun j hj q => q.elim (a2 j) fun z => by omega⟩
  · have e := nI_ltI (a := k) (b := n) (by omega) (by omega)
    rw [a2]
    by_cases c : nI k < nI n
    · have hl := e.mp c
      rw [if_pos c]
      exact Or.inr ⟨k, hk, rfl, Or.inr rfl, fun j hj q => q.elim (a4 j (by omega)) fun z => by omega⟩
    · have hl : ¬ k < n := fun z => c (e.mpr z)
      rw [if_neg c]
      exact Or.inr ⟨n, a1, rfl, Or.inl a3, fun j hj q => q.elim (a4 j hj) fun z => by omega⟩
theorem MFr.uniq {far : Int32} (hf : ∀ n : Nat, n ≤ 18 → nI n < far) {P : Nat → Prop} {v v2 : Int32} (h : MFr far P v) (h2 : MFr far P v2) : v = v2 := by
  rcases h with ⟨a1, a2⟩ | ⟨n, a1, a2, a3, a4⟩
  · rcases h2 with ⟨b1, _⟩ | ⟨m, _, _, b3, _⟩
    · rw [a1, b1]
    · exact absurd b3 (a2 m)
  · rcases h2 with ⟨_, b2⟩ | ⟨m, _, b2, b3, b4⟩
    · exact absurd a3 (b2 n)
    · have e : n = m := by
        rcases Nat.lt_trichotomy n m with z | z | z
        · exact absurd a3 (b4 n z)
        · exact z
        · exact absurd b3 (a4 m z)
      rw [a2, b2, e]
theorem far_99 : ∀ n : Nat, n ≤ 18 → nI n < 99 := fun n hn => (nI_ltI (a := n) (b := 99) (by omega) (by omega)).mpr (by omega)
theorem far_1000 : ∀ n : Nat, n ≤ 18 → nI n < 1000 := fun n hn => (nI_ltI (a := n) (b := 1000) (by omega) (by omega)).mpr (by omega)
/-- no more than two calls an hour -/
theorem tp_le {O : Nat → Nat → Prop} {s0 : Int32} : ∀ (h : Nat) (t : Int32) (k : Nat), TP O s0 h t k → k ≤ 2 * h
  | 0, t, k, q => by
    have q : t = s0 ∧ k = 0 := q
    omega
  | h + 1, t, k, q => by
    rcases q with q | ⟨s, c, j, a1, -, -, -, a2⟩ | ⟨s, c, j, a1, -, -, -, -, a2⟩
    · have := tp_le h t k q
      omega
    · have := tp_le h s j a1
      omega
    · have := tp_le h s j a1
      omega
/-- the costs of an hour, as a row holds them at the places of states -/
def CST (N : Nat) (far : Int32) (st : Nat → Int32) (P : Int32 → Nat → Prop) (f : Nat → Int32) : Prop := ∀ q : Nat, q < N → MFr far (P (st q)) (f q)
/-- states that have a place -/
def PLS (N : Nat) (st : Nat → Int32) (pl : Int32 → Nat) (D : Int32 → Prop) : Prop := (∀ q : Nat, q < N → D (st q) ∧ pl (st q) = q) ∧ ∀ t : Int32, D t → pl t < N ∧ st (pl t) = t
section
variable {N : Nat} {far : Int32} {st : Nat → Int32} {pl : Int32 → Nat} {D : Int32 → Prop}
theorem cst_put (hf : ∀ n : Nat, n ≤ 18 → nI n < far) (hP : PLS N st pl D) {P : Int32 → Nat → Prop} {f : Nat → Int32} (h : CST N far st P f) {t : Int32} (ht : D t) {k : Nat} (hk : k ≤ 16) : CST N far st (fun s n => P s n ∨ (s = t ∧ n = k)) (upd f (pl t) (mn2 (f (pl t)) (nI k))) := fun q hq => by
  by_cases e : q = pl t
  · rw [e, upd_eq]
    have e2 := (hP.2 t ht).2
    exact ((h (pl t) (hP.2 t ht).1).put hf hk).iff fun n => by
      rw [e2]
      exact or_congr Iff.rfl ⟨fun z => ⟨rfl, z⟩, fun z => z.2⟩
  · rw [upd_ne e]
    exact (h q hq).iff fun n => ⟨Or.inl, fun z => z.elim id fun z => by
      exfalso
      refine e ?_
      rw [← z.1]
      exact ((hP.1 q hq).2).symm⟩
end
/-! places and states, bits of a join -/
theorem b15n : ∀ r : Nat, r < 32 → bt (15 : Int32) r = decide (r < 4) := by decide +kernel
theorem b338t : ∀ j : Nat, j < 16 → j % 5 = 0 → bt (33825 : Int32) j = true := by decide +kernel
theorem b338f : ∀ j : Nat, j < 32 → (16 ≤ j ∨ ¬ j % 5 = 0) → bt (33825 : Int32) j = false := by decide +kernel
theorem da_t {a : Prop} [Decidable a] {b : Bool} (h : a) : (decide a && b) = b := by rw [decide_eq_true h, Bool.true_and]
theorem da_f {a : Prop} [Decidable a] {b : Bool} (h : ¬ a) : (decide a && b) = false := by rw [decide_eq_false h, Bool.false_and]
theorem shr4 {x : Int32} {n j : Nat} (hn : n < 28) (hj : j < 32) : bt ((x >>> (nI n &&& 31)) &&& (15 : Int32)) j = (decide (j < 4) && bt x (n + j)) := by
  rw [b_and, b_sshr n (by omega) x hj, b15n j hj]
  by_cases q : j < 4
  · rw [if_pos (show n + j < 32 by omega), decide_eq_true q, Bool.and_true, Bool.true_and]
  · rw [decide_eq_false q, Bool.and_false, Bool.false_and]
theorem shl4 {y : Int32} {m i : Nat} {f : Nat → Bool} (hm : m < 28) (hi : i < 32) (hy : ∀ j : Nat, j < 32 → bt y j = (decide (j < 4) && f j)) : bt (y <<< (nI m &&& 31)) i = (decide (m ≤ i ∧ i < m + 4) && f (i - m)) := by
  rw [b_shl m (by omega) _ hi, hy (i - m) (by omega)]
  by_cases q1 : m ≤ i
  · by_cases q2 : i < m + 4
    · rw [da_t (show m ≤ i ∧ i < m + 4 from ⟨q1, q2⟩), da_t q1, da_t (show i - m < 4 by omega)]
    · rw [da_f (show ¬ (m ≤ i ∧ i < m + 4) from fun z => q2 z.2), da_t q1, da_f (show ¬ i - m < 4 by omega)]
  · rw [da_f (show ¬ (m ≤ i ∧ i < m + 4) from fun z => q1 z.1), da_f q1]
section
variable {x : Int32} {i : Nat}
theorem pl_bit (hi : i < 32) : bt (F_X9_placeOf x) i = (((decide (i < 4) && bt x (1 + i)) || (decide (4 ≤ i ∧ i < 4 + 4) && bt x (6 + (i - 4)))) || (decide (8 ≤ i ∧ i < 8 + 4) && bt x (11 + (i - 8)))) := by
  show bt ((((x >>> (nI 1 &&& 31)) &&& (15 : Int32)) ||| (((x >>> (nI 6 &&& 31)) &&& (15 : Int32)) <<< (nI 4 &&& 31))) ||| (((x >>> (nI 11 &&& 31)) &&& (15 : Int32)) <<< (nI 8 &&& 31))) i = _
  rw [b_or, b_or, shr4 (by omega) hi, shl4 (m := 4) (f := fun j => bt x (6 + j)) (by omega) hi (fun j hj => shr4 (by omega) hj), shl4 (m := 8) (f := fun j => bt x (11 + j)) (by omega) hi (fun j hj => shr4 (by omega) hj)]
theorem sa_bit (hi : i < 32) : bt (F_X9_stateAt x) i = (((bt (33825 : Int32) i || (decide (1 ≤ i ∧ i < 1 + 4) && bt x (i - 1))) || (decide (6 ≤ i ∧ i < 6 + 4) && bt x (4 + (i - 6)))) || (decide (11 ≤ i ∧ i < 11 + 4) && bt x (8 + (i - 11)))) := by
  show bt ((((33825 : Int32) ||| ((x &&& (15 : Int32)) <<< (nI 1 &&& 31))) ||| (((x >>> (nI 4 &&& 31)) &&& (15 : Int32)) <<< (nI 6 &&& 31))) ||| (((x >>> (nI 8 &&& 31)) &&& (15 : Int32)) <<< (nI 11 &&& 31))) i = _
  have h1 : ∀ j : Nat, j < 32 → bt (x &&& (15 : Int32)) j = (decide (j < 4) && bt x j) := fun j hj => by rw [b_and, b15n j hj, Bool.and_comm]
  rw [b_or, b_or, b_or, shl4 (m := 1) (f := bt x) (by omega) hi h1, shl4 (m := 6) (f := fun j => bt x (4 + j)) (by omega) hi (fun j hj => shr4 (by omega) hj), shl4 (m := 11) (f := fun j => bt x (8 + j)) (by omega) hi (fun j hj => shr4 (by omega) hj)]
theorem pl_sa (hi : i < 12) : bt (F_X9_placeOf (F_X9_stateAt x)) i = bt x i := by
  rw [pl_bit (by omega)]
  rcases (show i < 4 ∨ (4 ≤ i ∧ i < 8) ∨ (8 ≤ i ∧ i < 12) by omega) with q | q | q
  · rw [da_t (show i < 4 by omega), da_f (show ¬ (4 ≤ i ∧ i < 4 + 4) by omega), da_f (show ¬ (8 ≤ i ∧ i < 8 + 4) by omega), Bool.or_false, Bool.or_false, sa_bit (show 1 + i < 32 by omega), b338f (1 + i) (by omega) (by omega), da_t (show 1 ≤ 1 + i ∧ 1 + i < 1 + 4 by omega), da_f (show ¬ (6 ≤ 1 + i ∧ 1 + i < 6 + 4) by omega), da_f (show ¬ (11 ≤ 1 + i ∧ 1 + i < 11 + 4) by omega), Bool.false_or, Bool.or_false, Bool.or_false, show 1 + i - 1 = i by omega]
  · rw [da_f (show ¬ i < 4 by omega), da_t (show 4 ≤ i ∧ i < 4 + 4 by omega), da_f (show ¬ (8 ≤ i ∧ i < 8 + 4) by omega), Bool.false_or, Bool.or_false, sa_bit (show 6 + (i - 4) < 32 by omega), b338f (6 + (i - 4)) (by omega) (by omega), da_f (show ¬ (1 ≤ 6 + (i - 4) ∧ 6 + (i - 4) < 1 + 4) by omega), da_t (show 6 ≤ 6 + (i - 4) ∧ 6 + (i - 4) < 6 + 4 by omega), da_f (show ¬ (11 ≤ 6 + (i - 4) ∧ 6 + (i - 4) < 11 + 4) by omega), Bool.false_or, Bool.false_or, Bool.or_false, show 4 + (6 + (i - 4) - 6) = i by omega]
  · rw [da_f (show ¬ i < 4 by omega), da_f (show ¬ (4 ≤ i ∧ i < 4 + 4) by omega), da_t (show 8 ≤ i ∧ i < 8 + 4 by omega), Bool.false_or, Bool.false_or, sa_bit (show 11 + (i - 8) < 32 by omega), b338f (11 + (i - 8)) (by omega) (by omega), da_f (show ¬ (1 ≤ 11 + (i - 8) ∧ 11 + (i - 8) < 1 + 4) by omega), da_f (show ¬ (6 ≤ 11 + (i - 8) ∧ 11 + (i - 8) < 6 + 4) by omega), da_t (show 11 ≤ 11 + (i - 8) ∧ 11 + (i - 8) < 11 + 4 by omega), Bool.false_or, Bool.false_or, Bool.false_or, show 8 + (11 + (i - 8) - 11) = i by omega]
end
def D9 (t : Int32) : Prop := sB 16 t ∧ t &&& 33825 = 33825
theorem pls9 : PLS 4096 (fun q => F_X9_stateAt (nI q)) (fun t => tN (F_X9_placeOf t)) D9 := by
  refine ⟨fun q hq => ?_, fun t ht => ?_⟩
  · have hn : sB 12 (nI q) := sB_nI hq
    refine ⟨⟨fun i a b => ?_, b_ext fun i hi => ?_⟩, ?_⟩
    · show bt (F_X9_stateAt (nI q)) i = false
      rw [sa_bit b, b338f i b (Or.inl a), da_f (show ¬ (1 ≤ i ∧ i < 1 + 4) by omega), da_f (show ¬ (6 ≤ i ∧ i < 6 + 4) by omega), da_f (show ¬ (11 ≤ i ∧ i < 11 + 4) by omega), Bool.or_false, Bool.or_false, Bool.or_false]
    · show bt (F_X9_stateAt (nI q) &&& 33825) i = bt (33825 : Int32) i
      rw [b_and]
      cases z : bt (33825 : Int32) i with
      | false => rw [Bool.and_false]
      | true => rw [Bool.and_true, sa_bit hi, z, Bool.true_or, Bool.true_or, Bool.true_or]
    · show tN (F_X9_placeOf (F_X9_stateAt (nI q))) = q
      have e : F_X9_placeOf (F_X9_stateAt (nI q)) = nI q := b_ext fun i hi => by
        by_cases z : i < 12
        · exact pl_sa z
        · rw [hn i (by omega) hi, pl_bit hi, da_f (show ¬ i < 4 by omega), da_f (show ¬ (4 ≤ i ∧ i < 4 + 4) by omega), da_f (show ¬ (8 ≤ i ∧ i < 8 + 4) by omega), Bool.or_false, Bool.or_false]
      rw [e]
      exact tN_nI (by omega)
  · refine ⟨pl9_num.2, ?_⟩
    show F_X9_stateAt (nI (tN (F_X9_placeOf t))) = t
    rw [← (pl9_num (x := t)).1]
    refine b_ext fun i hi => ?_
    rw [sa_bit hi]
    rcases (show (i < 16 ∧ i % 5 = 0) ∨ (1 ≤ i ∧ i < 5) ∨ (6 ≤ i ∧ i < 10) ∨ (11 ≤ i ∧ i < 15) ∨ 16 ≤ i by omega) with q | q | q | q | q
    · have e : bt (t &&& 33825) i = bt (33825 : Int32) i := by rw [ht.2]
      rw [b_and, b338t i q.1 q.2, Bool.and_true] at e
      rw [b338t i q.1 q.2, Bool.true_or, Bool.true_or, Bool.true_or, e]
    · rw [b338f i hi (by omega), da_t (show 1 ≤ i ∧ i < 1 + 4 by omega), da_f (show ¬ (6 ≤ i ∧ i < 6 + 4) by omega), da_f (show ¬ (11 ≤ i ∧ i < 11 + 4) by omega), Bool.false_or, Bool.or_false, Bool.or_false, pl_bit (show i - 1 < 32 by omega), da_t (show i - 1 < 4 by omega), da_f (show ¬ (4 ≤ i - 1 ∧ i - 1 < 4 + 4) by omega), da_f (show ¬ (8 ≤ i - 1 ∧ i - 1 < 8 + 4) by omega), Bool.or_false, Bool.or_false, show 1 + (i - 1) = i by omega]
    · rw [b338f i hi (by omega), da_f (show ¬ (1 ≤ i ∧ i < 1 + 4) by omega), da_t (show 6 ≤ i ∧ i < 6 + 4 by omega), da_f (show ¬ (11 ≤ i ∧ i < 11 + 4) by omega), Bool.false_or, Bool.false_or, Bool.or_false, pl_bit (show 4 + (i - 6) < 32 by omega), da_f (show ¬ 4 + (i - 6) < 4 by omega), da_t (show 4 ≤ 4 + (i - 6) ∧ 4 + (i - 6) < 4 + 4 by omega), da_f (show ¬ (8 ≤ 4 + (i - 6) ∧ 4 + (i - 6) < 8 + 4) by omega), Bool.false_or, Bool.or_false, show 6 + (4 + (i - 6) - 4) = i by omega]
    · rw [b338f i hi (by omega), da_f (show ¬ (1 ≤ i ∧ i < 1 + 4) by omega), da_f (show ¬ (6 ≤ i ∧ i < 6 + 4) by omega), da_t (show 11 ≤ i ∧ i < 11 + 4 by omega), Bool.false_or, Bool.false_or, Bool.false_or, pl_bit (show 8 + (i - 11) < 32 by omega), da_f (show ¬ 8 + (i - 11) < 4 by omega), da_f (show ¬ (4 ≤ 8 + (i - 11) ∧ 8 + (i - 11) < 4 + 4) by omega), da_t (show 8 ≤ 8 + (i - 11) ∧ 8 + (i - 11) < 8 + 4 by omega), Bool.false_or, Bool.false_or, show 11 + (8 + (i - 11) - 8) = i by omega]
    · rw [b338f i hi (Or.inl q), da_f (show ¬ (1 ≤ i ∧ i < 1 + 4) by omega), da_f (show ¬ (6 ≤ i ∧ i < 6 + 4) by omega), da_f (show ¬ (11 ≤ i ∧ i < 11 + 4) by omega), Bool.or_false, Bool.or_false, Bool.or_false, ht.1 i q hi]
theorem pls16 : PLS 65536 (fun q => nI q) tN (sB 16) :=
  ⟨fun q hq => ⟨sB_nI hq, tN_nI (by omega)⟩, fun t ht => by
    obtain ⟨h1, h2⟩ := sB_num (k := 16) (by decide) ht
    exact ⟨h2, h1.symm⟩⟩
/-- what a join has -/
theorem jn_bit {x : Int32} {a b : Nat} (ha : a < 4) (hb : b < 4) {i : Nat} (hi : i < 32) : bt (F_X12_traded x a b) i = (bt x i || (decide (4 * a ≤ i ∧ i < 4 * a + 4) && (bt x i || bt x (4 * b + (i - 4 * a)))) || (decide (4 * b ≤ i ∧ i < 4 * b + 4) && (bt x (4 * a + (i - 4 * b)) || bt x i))) := by
  have b15 : ∀ r : Nat, r < 32 → bt (15 : Int32) r = decide (r < 4) := by decide +kernel
  have sh : ∀ c d : Nat, c < 4 → d < 4 → bt (((x >>> (nI (4 * c) &&& 31)) &&& (15 : Int32)) <<< (nI (4 * d) &&& 31)) i = (decide (4 * d ≤ i ∧ i < 4 * d + 4) && bt x (4 * c + (i - 4 * d))) := fun c d hc hd => by
    rw [b_shl (4 * d) (by omega) _ hi, b_and, b15 (i - 4 * d) (by omega)]
    by_cases q : 4 * d ≤ i ∧ i < 4 * d + 4
    · rw [b_sshr (4 * c) (by omega) x (by omega), if_pos (show 4 * c + (i - 4 * d) < 32 by omega), decide_eq_true q, decide_eq_true q.1, decide_eq_true (show i - 4 * d < 4 by omega), Bool.true_and, Bool.true_and, Bool.and_true]
    · rw [decide_eq_false q, Bool.false_and]
      by_cases q1 : 4 * d ≤ i
      · rw [decide_eq_false (show ¬ i - 4 * d < 4 by omega), Bool.and_false, Bool.and_false]
      · rw [decide_eq_false q1, Bool.false_and]
  have spl : ∀ d : Nat, d < 4 → bt (((x >>> (nI (4 * a) &&& 31) ||| x >>> (nI (4 * b) &&& 31)) &&& (15 : Int32)) <<< (nI (4 * d) &&& 31)) i = (bt (((x >>> (nI (4 * a) &&& 31)) &&& (15 : Int32)) <<< (nI (4 * d) &&& 31)) i || bt (((x >>> (nI (4 * b) &&& 31)) &&& (15 : Int32)) <<< (nI (4 * d) &&& 31)) i) := fun d hd => by
    rw [b_shl (4 * d) (by omega) _ hi, b_shl (4 * d) (by omega) _ hi, b_shl (4 * d) (by omega) _ hi, b_and, b_and, b_and, b_or]
    cases decide (4 * d ≤ i) <;> cases bt (x >>> (nI (4 * a) &&& 31)) (i - 4 * d) <;> cases bt (x >>> (nI (4 * b) &&& 31)) (i - 4 * d) <;> cases bt (15 : Int32) (i - 4 * d) <;> rfl
  unfold F_X12_traded
  rw [b_or, b_or, spl a ha, spl b hb, sh a a ha ha, sh b a hb ha, sh a b ha hb, sh b b hb hb]
  have ea : (decide (4 * a ≤ i ∧ i < 4 * a + 4) && bt x (4 * a + (i - 4 * a))) = (decide (4 * a ≤ i ∧ i < 4 * a + 4) && bt x i) := by
    by_cases q : 4 * a ≤ i ∧ i < 4 * a + 4
    · rw [show 4 * a + (i - 4 * a) = i by omega]
    · rw [decide_eq_false q, Bool.false_and, Bool.false_and]
  have eb : (decide (4 * b ≤ i ∧ i < 4 * b + 4) && bt x (4 * b + (i - 4 * b))) = (decide (4 * b ≤ i ∧ i < 4 * b + 4) && bt x i) := by
    by_cases q : 4 * b ≤ i ∧ i < 4 * b + 4
    · rw [show 4 * b + (i - 4 * b) = i by omega]
    · rw [decide_eq_false q, Bool.false_and, Bool.false_and]
  rw [ea, eb, Bool.and_or_distrib_left, Bool.and_or_distrib_left]
theorem jn_up {x : Int32} {c : Nat} {i : Nat} (hi : i < 32) (q : bt x i = true) : bt (F_X9_join x c) i = true := by
  rw [join_eq, jn_bit (cAT_lt c) (cBT_lt c) hi, q]
  rfl
theorem jn_D9 {x : Int32} {c : Nat} (h : D9 x) : D9 (F_X9_join x c) := by
  refine ⟨tr_num (cAT_lt c) (cBT_lt c) h.1, b_ext fun i hi => ?_⟩
  have e : bt (x &&& 33825) i = bt (33825 : Int32) i := by rw [h.2]
  rw [b_and] at e ⊢
  cases q : bt (33825 : Int32) i with
  | false => rw [Bool.and_false]
  | true =>
    rw [q, Bool.and_true] at e
    rw [jn_up hi e]; rfl
theorem jn_16 {x : Int32} {c : Nat} (h : sB 16 x) : sB 16 (F_X9_join x c) := tr_num (cAT_lt c) (cBT_lt c) h
/-- beyond those that take part nothing changes -/
theorem jn_or {x w : Int32} {c n : Nat} (hc : cAT c < n ∧ cBT c < n) (hw : ∀ i : Nat, i < 4 * n → bt w i = false) : F_X9_join (x ||| w) c = F_X9_join x c ||| w := b_ext fun i hi => by
  have ha := cAT_lt c
  have hb := cBT_lt c
  rw [join_eq, join_eq, b_or, jn_bit ha hb hi, jn_bit ha hb hi, b_or]
  by_cases q1 : 4 * cAT c ≤ i ∧ i < 4 * cAT c + 4
  · rw [b_or, hw (4 * cBT c + (i - 4 * cAT c)) (by omega), hw i (by omega), Bool.or_false, Bool.or_false, Bool.or_false]
    by_cases q2 : 4 * cBT c ≤ i ∧ i < 4 * cBT c + 4
    · rw [b_or, hw (4 * cAT c + (i - 4 * cBT c)) (by omega), Bool.or_false]
    · rw [decide_eq_false q2, Bool.false_and, Bool.false_and]
  · rw [decide_eq_false q1, Bool.false_and, Bool.false_and, Bool.or_false, Bool.or_false]
    by_cases q2 : 4 * cBT c ≤ i ∧ i < 4 * cBT c + 4
    · rw [b_or, hw (4 * cAT c + (i - 4 * cBT c)) (by omega), hw i (by omega), Bool.or_false, Bool.or_false, Bool.or_false]
    · rw [decide_eq_false q2, Bool.false_and, Bool.false_and, Bool.or_false, Bool.or_false]
theorem jn_in {x : Int32} {c n : Nat} (hc : cAT c < n ∧ cBT c < n) (h : sB (4 * n) x) : sB (4 * n) (F_X9_join x c) := fun i a b => by
  rw [join_eq, jn_bit (cAT_lt c) (cBT_lt c) b, h i a b, decide_eq_false (show ¬ (4 * cAT c ≤ i ∧ i < 4 * cAT c + 4) by omega), decide_eq_false (show ¬ (4 * cBT c ≤ i ∧ i < 4 * cBT c + 4) by omega)]
  rfl
/-- the same with the own things of those that there are not -/
theorem tp_or {O : Nat → Nat → Prop} {s0 w : Int32} {n : Nat} (hO : ∀ h c : Nat, O h c → cAT c < n ∧ cBT c < n) (hw : ∀ i : Nat, i < 4 * n → bt w i = false) : ∀ (h : Nat) (t : Int32) (k : Nat), TP O (s0 ||| w) h t k ↔ ∃ s : Int32, TP O s0 h s k ∧ t = s ||| w
  | 0, t, k => ⟨fun q => ⟨s0, ⟨rfl, q.2⟩, q.1⟩, fun ⟨s, q, e⟩ => by
      have q : s = s0 ∧ k = 0 := q
      exact ⟨by rw [e, q.1], q.2⟩⟩
  | h + 1, t, k => by
    constructor
    · rintro (q | ⟨s, c, j, a1, a2, a3, a4, a5⟩ | ⟨s, c, j, a1, a2, a3, a4, a5, a6⟩)
      · obtain ⟨s, q1, q2⟩ := (tp_or hO hw h t k).mp q
        exact ⟨s, Or.inl q1, q2⟩
      · obtain ⟨s', q1, q2⟩ := (tp_or hO hw h s j).mp a1
        exact ⟨_, Or.inr (Or.inl ⟨s', c, j, q1, a2, a3, rfl, a5⟩), by rw [a4, q2, jn_or (hO _ _ a3) hw]⟩
      · obtain ⟨s', q1, q2⟩ := (tp_or hO hw h s j).mp a1
        exact ⟨_, Or.inr (Or.inr ⟨s', c, j, q1, a2, a3, a4, rfl, a6⟩), by rw [a5, q2, jn_or (hO _ _ a3) hw, jn_or (hO _ _ a4) hw]⟩
    · rintro ⟨s, q, e⟩
      rcases q with q | ⟨s', c, j, a1, a2, a3, a4, a5⟩ | ⟨s', c, j, a1, a2, a3, a4, a5, a6⟩
      · exact Or.inl ((tp_or hO hw h t k).mpr ⟨s, q, e⟩)
      · exact Or.inr (Or.inl ⟨s' ||| w, c, j, (tp_or hO hw h _ j).mpr ⟨s', a1, rfl⟩, a2, a3, by rw [e, a4, jn_or (hO _ _ a3) hw], a5⟩)
      · exact Or.inr (Or.inr ⟨s' ||| w, c, j, (tp_or hO hw h _ j).mpr ⟨s', a1, rfl⟩, a2, a3, a4, by rw [e, a5, jn_or (hO _ _ a3) hw, jn_or (hO _ _ a4) hw], a6⟩)
theorem tp_in {O : Nat → Nat → Prop} {s0 : Int32} {n : Nat} (hO : ∀ h c : Nat, O h c → cAT c < n ∧ cBT c < n) (h0 : sB (4 * n) s0) : ∀ (h : Nat) (t : Int32) (k : Nat), TP O s0 h t k → sB (4 * n) t
  | 0, t, k, q => by
    have q : t = s0 ∧ k = 0 := q
    rw [q.1]; exact h0
  | h + 1, t, k, q => by
    rcases q with q | ⟨s, c, j, a1, a2, a3, a4, a5⟩ | ⟨s, c, j, a1, a2, a3, a4, a5, a6⟩
    · exact tp_in hO h0 h t k q
    · rw [a4]; exact jn_in (hO _ _ a3) (tp_in hO h0 h s j a1)
    · rw [a5]; exact jn_in (hO _ _ a4) (jn_in (hO _ _ a3) (tp_in hO h0 h s j a1))
/-- costs at the end are the same on both sides -/
theorem tp_end {O : Nat → Nat → Prop} {s0 w t : Int32} {n h k : Nat} (hn : n ≤ 4) (hO : ∀ h c : Nat, O h c → cAT c < n ∧ cBT c < n) (hw : ∀ i : Nat, i < 4 * n → bt w i = false) (h0 : sB (4 * n) s0) (ht : sB (4 * n) t) : TP O (s0 ||| w) h (t ||| w) k ↔ TP O s0 h t k := by
  rw [tp_or hO hw h]
  constructor
  · rintro ⟨s, q, e⟩
    have hs := tp_in hO h0 h s k q
    have : t = s := b_ext fun i hi => by
      by_cases z : i < 4 * n
      · have e2 : bt (t ||| w) i = bt (s ||| w) i := by rw [e]
        rw [b_or, b_or, hw i z, Bool.or_false, Bool.or_false] at e2
        exact e2
      · rw [ht i (by omega) hi, hs i (by omega) hi]
    rw [this]; exact q
  · intro q
    exact ⟨t, q, rfl⟩
/-! the class's hours -/
theorem nI_p1 (j : Nat) : nI j + 1 = nI (j + 1) := nI_add j 1
theorem nI_p2 (j : Nat) : nI j + 2 = nI (j + 2) := nI_add j 2
abbrev st9 : Nat → Int32 := fun q => F_X9_stateAt (nI q)
section
variable {O : Nat → Prop} {fo : Nat → Int32} {P : Int32 → Nat → Prop}
theorem im_cst {f : Nat → Int32} (h : CST 4096 1000 st9 P f) {t : Int32} (ht : D9 t) {k : Nat} (hk : k ≤ 16) : CST 4096 1000 st9 (fun s n => P s n ∨ (s = t ∧ n = k)) (F_X9_improve f t (nI k)) := cst_put far_1000 pls9 h ht hk
theorem CST.iff {N : Nat} {far : Int32} {st : Nat → Int32} {P2 : Int32 → Nat → Prop} {f : Nat → Int32} (h : CST N far st P f) (e : ∀ (t : Int32) (n : Nat), P t n ↔ P2 t n) : CST N far st P2 f := fun q hq => (h q hq).iff fun n => e (st q) n
/-- what one state leads to, by the first couples -/
def T1m (O : Nat → Prop) (x : Int32) (j m : Nat) (t : Int32) (n : Nat) : Prop := (∃ c : Nat, c < m ∧ O c ∧ t = F_X9_join x c ∧ n = j + 1) ∨ ∃ c : Nat, c < m ∧ O c ∧ O (5 - c) ∧ t = F_X9_join (F_X9_join x c) (5 - c) ∧ n = j + 2
theorem gn_cst (hfo : ∀ c : Nat, c < 6 → (¬ fo c = 0 ↔ O c)) {x : Int32} {j : Nat} (hj : j ≤ 14) (hx : D9 x) {f : Nat → Int32} (h : CST 4096 1000 st9 P f) : ∀ m : Nat, m ≤ 6 → CST 4096 1000 st9 (fun t n => P t n ∨ T1m O x j m t n) (L1_X9_goOn fo x (nI j) f m)
  | 0, _ => h.iff fun t n => ⟨Or.inl, fun z => z.elim id fun z => z.elim (fun ⟨_, z, _⟩ => absurd z (Nat.not_lt_zero _)) fun ⟨_, z, _⟩ => absurd z (Nat.not_lt_zero _)⟩
  | m + 1, hm => by
    have ih := gn_cst hfo hj hx h m (by omega)
    have e : L1_X9_goOn fo x (nI j) f (m + 1) = L1_X9_goOns fo x (nI j) m (L1_X9_goOn fo x (nI j) f m) := rfl
    rw [e]
    generalize L1_X9_goOn fo x (nI j) f m = u at ih ⊢
    unfold L1_X9_goOns
    by_cases c1 : fo m = 0
    · rw [if_pos c1]
      have hO : ¬ O m := fun z => (hfo m (by omega)).mpr z c1
      refine ih.iff fun t n => or_congr Iff.rfl (or_congr ⟨?_, ?_⟩ ⟨?_, ?_⟩)
      · rintro ⟨c, a1, a2⟩; exact ⟨c, by omega, a2⟩
      · rintro ⟨c, a1, a2⟩
        refine ⟨c, ?_, a2⟩
        by_cases y : c = m
        · exact absurd (by rw [← y]; exact a2.1) hO
        · omega
      · rintro ⟨c, a1, a2⟩; exact ⟨c, by omega, a2⟩
      · rintro ⟨c, a1, a2⟩
        refine ⟨c, ?_, a2⟩
        by_cases y : c = m
        · exact absurd (by rw [← y]; exact a2.1) hO
        · omega
    · rw [if_neg c1]
      have hO := (hfo m (by omega)).mp c1
      have g1 := im_cst ih (jn_D9 (c := m) hx) (k := j + 1) (by omega)
      by_cases c2 : fo (5 - m) = 0
      · rw [if_pos c2, nI_p1]
        have hO2 : ¬ O (5 - m) := fun z => (hfo (5 - m) (by omega)).mpr z c2
        refine g1.iff fun t n => ?_
        constructor
        · rintro ((z | ⟨c, a1, a2⟩ | ⟨c, a1, a2⟩) | ⟨z1, z2⟩)
          · exact Or.inl z
          · exact Or.inr (Or.inl ⟨c, by omega, a2⟩)
          · exact Or.inr (Or.inr ⟨c, by omega, a2⟩)
          · exact Or.inr (Or.inl ⟨m, Nat.lt_succ_self _, hO, z1, z2⟩)
        · rintro (z | ⟨c, a1, a2, a3, a4⟩ | ⟨c, a1, a2, a3, a4⟩)
          · exact Or.inl (Or.inl z)
          · by_cases y : c = m
            · rw [y] at a3; exact Or.inr ⟨a3, a4⟩
            · exact Or.inl (Or.inr (Or.inl ⟨c, by omega, a2, a3, a4⟩))
          · by_cases y : c = m
            · rw [y] at a3; exact absurd a3 hO2
            · exact Or.inl (Or.inr (Or.inr ⟨c, by omega, a2, a3, a4⟩))
      · rw [if_neg c2, nI_p1, nI_p2]
        have hO2 := (hfo (5 - m) (by omega)).mp c2
        have g2 := im_cst g1 (jn_D9 (c := 5 - m) (jn_D9 (c := m) hx)) (k := j + 2) (by omega)
        refine g2.iff fun t n => ?_
        constructor
        · rintro (((z | ⟨c, a1, a2⟩ | ⟨c, a1, a2⟩) | ⟨z1, z2⟩) | ⟨z1, z2⟩)
          · exact Or.inl z
          · exact Or.inr (Or.inl ⟨c, by omega, a2⟩)
          · exact Or.inr (Or.inr ⟨c, by omega, a2⟩)
          · exact Or.inr (Or.inl ⟨m, Nat.lt_succ_self _, hO, z1, z2⟩)
          · exact Or.inr (Or.inr ⟨m, Nat.lt_succ_self _, hO, hO2, z1, z2⟩)
        · rintro (z | ⟨c, a1, a2, a3, a4⟩ | ⟨c, a1, a2, a3, a4, a5⟩)
          · exact Or.inl (Or.inl (Or.inl z))
          · by_cases y : c = m
            · rw [y] at a3; exact Or.inl (Or.inr ⟨a3, a4⟩)
            · exact Or.inl (Or.inl (Or.inr (Or.inl ⟨c, by omega, a2, a3, a4⟩)))
          · by_cases y : c = m
            · rw [y] at a4; exact Or.inr ⟨a4, a5⟩
            · exact Or.inl (Or.inl (Or.inr (Or.inr ⟨c, by omega, a2, a3, a4, a5⟩)))
/-- an hour over the places, in the class -/
theorem hr_cst {lc h : Nat} {L fn fo2 : Nat → Int32} (hfo : ∀ c : Nat, c < 6 → (¬ F_X9_lookAtLines fo2 lc L (nI (h + 1)) c = 0 ↔ O c)) (hle : ∀ (t : Int32) (n : Nat), P t n → n ≤ 14) (hn : CST 4096 1000 st9 P fn) {f : Nat → Int32} (h0 : CST 4096 1000 st9 P f) : ∀ k : Nat, k ≤ 4096 → CST 4096 1000 st9 (fun t n => P t n ∨ ∃ (q j : Nat), q < k ∧ fn q = nI j ∧ P (st9 q) j ∧ T1m O (st9 q) j 6 t n) (L2_X9_fewestCalls lc L h fn fo2 f k)
  | 0, _ => h0.iff fun t n => ⟨Or.inl, fun z => z.elim id fun ⟨_, _, z, _⟩ => absurd z (Nat.not_lt_zero _)⟩
  | k + 1, hk => by
    have ih := hr_cst hfo hle hn h0 k (by omega)
    have e : L2_X9_fewestCalls lc L h fn fo2 f (k + 1) = L2_X9_fewestCallss lc L h fn fo2 k (L2_X9_fewestCalls lc L h fn fo2 f k) := rfl
    rw [e]
    generalize L2_X9_fewestCalls lc L h fn fo2 f k = u at ih ⊢
    unfold L2_X9_fewestCallss
    rcases hn k (by omega) with ⟨v1, v2⟩ | ⟨j, j1, j2, j3, j4⟩
    · have c1 : (1000 : Int32) ≤ fn k := by rw [v1]; decide
      rw [if_pos c1]
      refine ih.iff fun t n => or_congr Iff.rfl ⟨?_, ?_⟩
      · rintro ⟨q, j, a1, a2⟩; exact ⟨q, j, by omega, a2⟩
      · rintro ⟨q, j, a1, a2, a3, a4⟩
        refine ⟨q, j, ?_, a2, a3, a4⟩
        by_cases y : q = k
        · rw [y] at a3; exact absurd a3 (v2 j)
        · omega
    · have hj := hle _ _ j3
      have c1 : ¬ (1000 : Int32) ≤ fn k := fun q => by
        rw [j2] at q
        have := (nI_leI (a := 1000) (b := j) (by omega) (by omega)).mp q
        omega
      rw [if_neg c1, j2]
      have g := gn_cst hfo hj (pls9.1 k (by omega)).1 ih 6 (Nat.le_refl _)
      refine (show CST 4096 1000 st9 _ (F_X9_goOn u (F_X9_lookAtLines fo2 lc L (nI (h + 1))) (F_X9_stateAt (nI k)) (nI j)) from g).iff fun t n => ?_
      constructor
      · rintro ((z | ⟨q, i, a1, a2⟩) | z)
        · exact Or.inl z
        · exact Or.inr ⟨q, i, by omega, a2⟩
        · exact Or.inr ⟨k, j, Nat.lt_succ_self _, j2, j3, z⟩
      · rintro (z | ⟨q, i, a1, a2, a3, a4⟩)
        · exact Or.inl (Or.inl z)
        · by_cases y : q = k
          · rw [y] at a2 a3 a4
            have ei : i = j := (nI_eq (by have := hle _ _ a3; omega) (by omega)).mp (a2.symm.trans j2)
            rw [ei] at a4
            exact Or.inr a4
          · exact Or.inl (Or.inr ⟨q, i, by omega, a2, a3, a4⟩)
end
theorem MFr.low {far : Int32} {P P2 : Nat → Prop} {v : Int32} (h : MFr far P v) (e1 : ∀ n : Nat, P n → P2 n) (e2 : ∀ n : Nat, P2 n → ∃ m : Nat, m ≤ n ∧ P m) : MFr far P2 v := by
  rcases h with ⟨a1, a2⟩ | ⟨n, a1, a2, a3, a4⟩
  · exact Or.inl ⟨a1, fun n q => by
      obtain ⟨m, -, z⟩ := e2 n q
      exact a2 m z⟩
  · exact Or.inr ⟨n, a1, a2, e1 n a3, fun k hk q => by
      obtain ⟨m, hm, z⟩ := e2 k q
      exact a4 m (by omega) z⟩
/-- from an hour to the next, by least costs alone -/
theorem cst_next {N : Nat} {far : Int32} {st : Nat → Int32} {pl : Int32 → Nat} {D : Int32 → Prop} {O : Nat → Nat → Prop} {s0 : Int32} {h : Nat} (hP : PLS N st pl D) (hD : ∀ (t : Int32) (k : Nat), TP O s0 h t k → D t) {fn f2 : Nat → Int32} (hn : CST N far st (TP O s0 h) fn) (h2 : CST N far st (fun t n => TP O s0 h t n ∨ ∃ (q j : Nat), q < N ∧ fn q = nI j ∧ TP O s0 h (st q) j ∧ T1m (O (h + 1)) (st q) j 6 t n) f2) : CST N far st (TP O s0 (h + 1)) f2 := fun q hq => by
  have low : ∀ (s : Int32) (j : Nat), TP O s0 h s j → ∃ (r i : Nat), r < N ∧ st r = s ∧ fn r = nI i ∧ TP O s0 h s i ∧ i ≤ j := fun s j hs => by
    obtain ⟨p1, p2⟩ := hP.2 s (hD s j hs)
    have m := hn (pl s) p1
    rw [p2] at m
    rcases m with ⟨-, m2⟩ | ⟨i, i1, i2, i3, i4⟩
    · exact absurd hs (m2 j)
    · refine ⟨pl s, i, p1, p2, i2, i3, ?_⟩
      by_cases y : i ≤ j
      · exact y
      · exact absurd hs (i4 j (by omega))
  refine (h2 q hq).low (fun n z => ?_) (fun n z => ?_)
  · rcases z with z | ⟨r, j, a1, a2, a3, ⟨c, b1, b2, b3, b4⟩ | ⟨c, b1, b2, b3, b4, b5⟩⟩
    · exact Or.inl z
    · exact Or.inr (Or.inl ⟨st r, c, j, a3, b1, b2, b3, b4⟩)
    · exact Or.inr (Or.inr ⟨st r, c, j, a3, b1, b2, b3, b4, b5⟩)
  · rcases z with z | ⟨s, c, j, a1, a2, a3, a4, a5⟩ | ⟨s, c, j, a1, a2, a3, a4, a5, a6⟩
    · exact ⟨n, Nat.le_refl _, Or.inl z⟩
    · obtain ⟨r, i, r1, r2, r3, r4, r5⟩ := low s j a1
      exact ⟨i + 1, by omega, Or.inr ⟨r, i, r1, r3, by rw [r2]; exact r4, Or.inl ⟨c, a2, a3, by rw [r2]; exact a4, rfl⟩⟩⟩
    · obtain ⟨r, i, r1, r2, r3, r4, r5⟩ := low s j a1
      exact ⟨i + 2, by omega, Or.inr ⟨r, i, r1, r3, by rw [r2]; exact r4, Or.inr ⟨c, a2, a3, a4, by rw [r2]; exact a5, rfl⟩⟩⟩
theorem tp_cl {O : Nat → Nat → Prop} {s0 : Int32} {D : Int32 → Prop} (h0 : D s0) (hj : ∀ (x : Int32) (c : Nat), D x → D (F_X9_join x c)) : ∀ (h : Nat) (t : Int32) (k : Nat), TP O s0 h t k → D t
  | 0, t, k, q => by
    have q : t = s0 ∧ k = 0 := q
    rw [q.1]; exact h0
  | h + 1, t, k, q => by
    rcases q with q | ⟨s, c, j, a1, -, -, a4, -⟩ | ⟨s, c, j, a1, -, -, -, a5, -⟩
    · exact tp_cl h0 hj h t k q
    · rw [a4]; exact hj _ _ (tp_cl h0 hj h s j a1)
    · rw [a5]; exact hj _ _ (hj _ _ (tp_cl h0 hj h s j a1))
theorem own_D9 : D9 33825 := ⟨fun i a b => (by decide +kernel : ∀ i, i < 32 → 16 ≤ i → bt (33825 : Int32) i = false) i b a, by decide +kernel⟩
/-- the class's answer before it is looked at -/
theorem fc_cls {O : Nat → Nat → Prop} {pe lc n : Nat} {L : Nat → Int32} (hn : n ≤ 8) (hO : ∀ h : Nat, h < 8 → ∀ (fo : Nat → Int32) (c : Nat), c < 6 → (¬ F_X9_lookAtLines fo lc L (nI (h + 1)) c = 0 ↔ O (h + 1) c)) (hg : D9 (F_X9_goal pe)) (hcp : ∀ (f g : Nat → Int32) (q : Nat), q < 4096 → va_cpy f g 0 0 4096 q = f q) : ∀ (m j : Nat) (fn fx fo : Nat → Int32) (p0 p1 : Nat), n < m + j → j ≤ n → CST 4096 1000 st9 (TP O 33825 j) fn → ∃ v : Int32, MFr 1000 (TP O 33825 n (F_X9_goal pe)) v ∧ (L1_X9_fewestCalls pe lc L n m j fn fx fo p0 p1).1 = if 1000 ≤ v then -1 else v
  | 0, j, _, _, _, _, _, h, h2, _ => absurd h (by omega)
  | m + 1, j, fn, fx, fo, p0, p1, h, h2, hf => by
    rw [L1_X9_fewestCalls]
    by_cases c1 : nI n < nI (j + 1)
    · rw [if_pos c1]
      have hj : j = n := by
        have := (nI_ltI (a := n) (b := j + 1) (by omega) (by omega)).mp c1
        omega
      have hv : MFr 1000 (TP O 33825 j (st9 (tN (F_X9_placeOf (F_X9_goal pe))))) (fn (tN (F_X9_placeOf (F_X9_goal pe)))) := hf _ (pls9.2 _ hg).1
      have e9 : st9 (tN (F_X9_placeOf (F_X9_goal pe))) = F_X9_goal pe := (pls9.2 _ hg).2
      rw [e9, hj] at hv
      refine ⟨_, hv, ?_⟩
      by_cases c2 : (1000 : Int32) ≤ fn (tN (F_X9_placeOf (F_X9_goal pe)))
      · rw [if_pos c2, if_pos c2]
      · rw [if_neg c2, if_neg c2]
    · rw [if_neg c1]
      have hj : j + 1 ≤ n := by
        by_cases z : j + 1 ≤ n
        · exact z
        · exact absurd ((nI_ltI (a := n) (b := j + 1) (by omega) (by omega)).mpr (by omega)) c1
      refine fc_cls hn hO hg hcp m (j + 1) _ _ _ _ _ (by omega) hj ?_
      have h0 : CST 4096 1000 st9 (TP O 33825 j) (va_cpy fn fx 0 0 4096) := fun q hq => by
        rw [hcp fn fx q hq]; exact hf q hq
      exact cst_next pls9 (fun t k q => tp_cl own_D9 (fun x c hx => jn_D9 hx) j t k q) hf (hr_cst (hO j (by omega) fo) (fun t k q => by have := tp_le j t k q; omega) hf h0 4096 (Nat.le_refl _))
theorem beg_cst {O : Nat → Nat → Prop} {N : Nat} {far : Int32} {st : Nat → Int32} {pl : Int32 → Nat} {D : Int32 → Prop} (hP : PLS N st pl D) {s0 : Int32} (h0 : D s0) {f : Nat → Int32} (hf : ∀ q : Nat, q < N → f q = far) : CST N far st (TP O s0 0) (upd f (pl s0) 0) := fun q hq => by
  by_cases e : q = pl s0
  · rw [e, upd_eq]
    exact Or.inr ⟨0, by omega, rfl, ⟨(hP.2 s0 h0).2, rfl⟩, fun k hk => absurd hk (Nat.not_lt_zero _)⟩
  · rw [upd_ne e]
    refine Or.inl ⟨hf q hq, fun n z => e ?_⟩
    have z : st q = s0 ∧ n = 0 := z
    rw [← z.1]
    exact ((hP.1 q hq).2).symm
theorem cpy_at (f g : Nat → Int32) (q : Nat) (hq : q < 4096) : va_cpy f g 0 0 4096 q = f q := (if_pos ⟨Nat.zero_le _, by omega⟩).trans (congrArg f (by omega))
/-! the reference's hours -/
def T1r (M : Nat → Nat → Prop) (n : Nat) (x : Int32) (j : Nat) (S : Nat → Nat → Prop) (t : Int32) (k : Nat) : Prop := (∃ a b : Nat, S a b ∧ M a b ∧ t = F_X12_traded x a b ∧ k = j + 1) ∨ ∃ a b : Nat, S a b ∧ M a b ∧ dNT a b < n ∧ M (cNT a b) (dNT a b) ∧ t = F_X12_traded (F_X12_traded x a b) (cNT a b) (dNT a b) ∧ k = j + 2
abbrev CS16 : (Int32 → Nat → Prop) → (Nat → Int32) → Prop := CST 65536 99 (fun q => nI q)
theorem me_cst {P : Int32 → Nat → Prop} {f : Nat → Int32} (h : CS16 P f) {t : Int32} (ht : sB 16 t) {k : Nat} (hk : k ≤ 16) : CS16 (fun s n => P s n ∨ (s = t ∧ n = k)) (F_X12_meet f (tN t) (nI k)) := cst_put far_99 pls16 h ht hk
section
variable {M : Nat → Nat → Prop} {P : Int32 → Nat → Prop} {n lc i h : Nat} {rA rB rF rT rW rO fn : Nat → Int32}
theorem bb_cst (hM : ∀ a b : Nat, (¬ F_X12_mayTrade rA rB rF rT rW rO lc i a b (h + 1) = 0 ↔ M a b)) (hn : n ≤ 4) {s j a : Nat} (hs : s < 65536) (ha : a < n) (hv : fn s = nI j) (hj : j ≤ 14) {f : Nat → Int32} (h0 : CS16 P f) : ∀ k : Nat, a + 1 + k ≤ n → CS16 (fun t m => P t m ∨ T1r M n (nI s) j (fun x y => x = a ∧ a < y ∧ y < a + 1 + k) t m) (L8_X12_layTrades rA rB rF rT rW rO lc n i h fn s a f k)
  | 0, _ => h0.iff fun t m => ⟨Or.inl, fun z => z.elim id fun z => by
      rcases z with ⟨x, y, ⟨_, z2, z3⟩, _⟩ | ⟨x, y, ⟨_, z2, z3⟩, _⟩ <;> omega⟩
  | k + 1, hk => by
    have ih := bb_cst hM hn hs ha hv hj h0 k (by omega)
    have e : L8_X12_layTrades rA rB rF rT rW rO lc n i h fn s a f (k + 1) = L8_X12_layTradess rA rB rF rT rW rO lc n i h fn s a k (L8_X12_layTrades rA rB rF rT rW rO lc n i h fn s a f k) := rfl
    rw [e]
    generalize L8_X12_layTrades rA rB rF rT rW rO lc n i h fn s a f k = u at ih ⊢
    unfold L8_X12_layTradess
    have up : ∀ x y : Nat, (x = a ∧ a < y ∧ y < a + 1 + k) → (x = a ∧ a < y ∧ y < a + 1 + (k + 1)) := fun x y z => ⟨z.1, z.2.1, by omega⟩
    have me : a = a ∧ a < a + 1 + k ∧ a + 1 + k < a + 1 + (k + 1) := ⟨rfl, by omega, by omega⟩
    have cs : ∀ x y : Nat, (x = a ∧ a < y ∧ y < a + 1 + (k + 1)) → (x = a ∧ a < y ∧ y < a + 1 + k) ∨ (x = a ∧ y = a + 1 + k) := fun x y z => by
      by_cases q : y = a + 1 + k
      · exact Or.inr ⟨z.1, q⟩
      · exact Or.inl ⟨z.1, z.2.1, by omega⟩
    have hM1 := hM a (a + 1 + k)
    have hM2 := hM (cNT a (a + 1 + k)) (dNT a (a + 1 + k))
    have ht := tr_nat (s := s) (a := a) (b := a + 1 + k) (by omega) (by omega) hs
    have h16 : sB 16 (F_X12_traded (nI s) a (a + 1 + k)) := tr_num (by omega) (by omega) (sB_nI hs)
    rw [hv, nI_p1, nI_p2]
    by_cases c1 : F_X12_mayTrade rA rB rF rT rW rO lc i a (a + 1 + k) (h + 1) = 0
    · rw [if_pos c1]
      have hN : ¬ M a (a + 1 + k) := fun z => hM1.mpr z c1
      refine ih.iff fun t m => or_congr Iff.rfl (or_congr ⟨?_, ?_⟩ ⟨?_, ?_⟩)
      · rintro ⟨x, y, z, q⟩; exact ⟨x, y, up x y z, q⟩
      · rintro ⟨x, y, z, q⟩
        rcases cs x y z with w | ⟨w1, w2⟩
        · exact ⟨x, y, w, q⟩
        · rw [w1, w2] at q; exact absurd q.1 hN
      · rintro ⟨x, y, z, q⟩; exact ⟨x, y, up x y z, q⟩
      · rintro ⟨x, y, z, q⟩
        rcases cs x y z with w | ⟨w1, w2⟩
        · exact ⟨x, y, w, q⟩
        · rw [w1, w2] at q; exact absurd q.1 hN
    · rw [if_neg c1]
      have hY := hM1.mp c1
      have g1 := me_cst ih h16 (k := j + 1) (by omega)
      have one : (¬ (dNT a (a + 1 + k) < n ∧ M (cNT a (a + 1 + k)) (dNT a (a + 1 + k)))) → CS16 (fun t m => P t m ∨ T1r M n (nI s) j (fun x y => x = a ∧ a < y ∧ y < a + 1 + (k + 1)) t m) (F_X12_meet u (tN (F_X12_traded (nI s) a (a + 1 + k))) (nI (j + 1))) := fun hno => g1.iff fun t m => by
        constructor
        · rintro ((z | ⟨x, y, z, q⟩ | ⟨x, y, z, q⟩) | ⟨z1, z2⟩)
          · exact Or.inl z
          · exact Or.inr (Or.inl ⟨x, y, up x y z, q⟩)
          · exact Or.inr (Or.inr ⟨x, y, up x y z, q⟩)
          · exact Or.inr (Or.inl ⟨a, a + 1 + k, me, hY, z1, z2⟩)
        · rintro (z | ⟨x, y, z, q⟩ | ⟨x, y, z, q⟩)
          · exact Or.inl (Or.inl z)
          · rcases cs x y z with w | ⟨w1, w2⟩
            · exact Or.inl (Or.inr (Or.inl ⟨x, y, w, q⟩))
            · rw [w1, w2] at q; exact Or.inr q.2
          · rcases cs x y z with w | ⟨w1, w2⟩
            · exact Or.inl (Or.inr (Or.inr ⟨x, y, w, q⟩))
            · rw [w1, w2] at q; exact absurd ⟨q.2.1, q.2.2.1⟩ hno
      by_cases c2 : nI n ≤ nI (dNT a (a + 1 + k))
      · rw [if_pos c2]
        have hd := dNT_lt a (a + 1 + k)
        exact one fun z => by
          have := (nI_leI (a := n) (b := dNT a (a + 1 + k)) (by omega) (by omega)).mp c2
          omega
      · rw [if_neg c2]
        have hd := dNT_lt a (a + 1 + k)
        have hc := cNT_lt a (a + 1 + k)
        have hdn : dNT a (a + 1 + k) < n := by
          by_cases z : dNT a (a + 1 + k) < n
          · exact z
          · exact absurd ((nI_leI (a := n) (b := dNT a (a + 1 + k)) (by omega) (by omega)).mpr (by omega)) c2
        by_cases c3 : F_X12_mayTrade rA rB rF rT rW rO lc i (cNT a (a + 1 + k)) (dNT a (a + 1 + k)) (h + 1) = 0
        · rw [if_pos c3]
          exact one fun z => hM2.mpr z.2 c3
        · rw [if_neg c3, ← ht.1]
          have g2 := me_cst g1 (tr_num hc hd h16) (k := j + 2) (by omega)
          refine g2.iff fun t m => ?_
          constructor
          · rintro (((z | ⟨x, y, z, q⟩ | ⟨x, y, z, q⟩) | ⟨z1, z2⟩) | ⟨z1, z2⟩)
            · exact Or.inl z
            · exact Or.inr (Or.inl ⟨x, y, up x y z, q⟩)
            · exact Or.inr (Or.inr ⟨x, y, up x y z, q⟩)
            · exact Or.inr (Or.inl ⟨a, a + 1 + k, me, hY, z1, z2⟩)
            · exact Or.inr (Or.inr ⟨a, a + 1 + k, me, hY, hdn, hM2.mp c3, z1, z2⟩)
          · rintro (z | ⟨x, y, z, q⟩ | ⟨x, y, z, q⟩)
            · exact Or.inl (Or.inl (Or.inl z))
            · rcases cs x y z with w | ⟨w1, w2⟩
              · exact Or.inl (Or.inl (Or.inr (Or.inl ⟨x, y, w, q⟩)))
              · rw [w1, w2] at q; exact Or.inl (Or.inr q.2)
            · rcases cs x y z with w | ⟨w1, w2⟩
              · exact Or.inl (Or.inl (Or.inr (Or.inr ⟨x, y, w, q⟩)))
              · rw [w1, w2] at q; exact Or.inr q.2.2.2
theorem T1r.iff {n : Nat} {x : Int32} {j : Nat} {S S2 : Nat → Nat → Prop} {t : Int32} {k : Nat} (e : ∀ a b : Nat, S a b ↔ S2 a b) : T1r M n x j S t k ↔ T1r M n x j S2 t k := by
  constructor
  · rintro (⟨a, b, z, q⟩ | ⟨a, b, z, q⟩)
    · exact Or.inl ⟨a, b, (e a b).mp z, q⟩
    · exact Or.inr ⟨a, b, (e a b).mp z, q⟩
  · rintro (⟨a, b, z, q⟩ | ⟨a, b, z, q⟩)
    · exact Or.inl ⟨a, b, (e a b).mpr z, q⟩
    · exact Or.inr ⟨a, b, (e a b).mpr z, q⟩
theorem T1r.or {n : Nat} {x : Int32} {j : Nat} {S S2 : Nat → Nat → Prop} {t : Int32} {k : Nat} : T1r M n x j (fun a b => S a b ∨ S2 a b) t k ↔ T1r M n x j S t k ∨ T1r M n x j S2 t k := by
  constructor
  · rintro (⟨a, b, z | z, q⟩ | ⟨a, b, z | z, q⟩)
    · exact Or.inl (Or.inl ⟨a, b, z, q⟩)
    · exact Or.inr (Or.inl ⟨a, b, z, q⟩)
    · exact Or.inl (Or.inr ⟨a, b, z, q⟩)
    · exact Or.inr (Or.inr ⟨a, b, z, q⟩)
  · rintro ((⟨a, b, z, q⟩ | ⟨a, b, z, q⟩) | (⟨a, b, z, q⟩ | ⟨a, b, z, q⟩))
    · exact Or.inl ⟨a, b, Or.inl z, q⟩
    · exact Or.inr ⟨a, b, Or.inl z, q⟩
    · exact Or.inl ⟨a, b, Or.inr z, q⟩
    · exact Or.inr ⟨a, b, Or.inr z, q⟩
theorem aa_cst (hM : ∀ a b : Nat, (¬ F_X12_mayTrade rA rB rF rT rW rO lc i a b (h + 1) = 0 ↔ M a b)) (hn : n ≤ 4) {s j : Nat} (hs : s < 65536) (hv : fn s = nI j) (hj : j ≤ 14) {f : Nat → Int32} (h0 : CS16 P f) : ∀ k : Nat, k ≤ n → CS16 (fun t m => P t m ∨ T1r M n (nI s) j (fun x y => x < k ∧ x < y ∧ y < n) t m) (L7_X12_layTrades rA rB rF rT rW rO lc n i h fn s f k)
  | 0, _ => h0.iff fun t m => ⟨Or.inl, fun z => z.elim id fun z => by
      rcases z with ⟨x, y, ⟨z1, _⟩, _⟩ | ⟨x, y, ⟨z1, _⟩, _⟩ <;> exact absurd z1 (Nat.not_lt_zero _)⟩
  | k + 1, hk => by
    have ih := aa_cst hM hn hs hv hj h0 k (by omega)
    have g := bb_cst hM hn hs (show k < n by omega) hv hj ih (n - (k + 1)) (by omega)
    refine (show CS16 _ (L7_X12_layTrades rA rB rF rT rW rO lc n i h fn s f (k + 1)) from g).iff fun t m => ?_
    rw [or_assoc, ← T1r.or]
    refine or_congr Iff.rfl (T1r.iff fun a b => ⟨?_, ?_⟩)
    · rintro (⟨z1, z2, z3⟩ | ⟨z1, z2, z3⟩)
      · exact ⟨by omega, z2, z3⟩
      · exact ⟨by omega, by omega, by omega⟩
    · rintro ⟨z1, z2, z3⟩
      by_cases y : a = k
      · exact Or.inr ⟨y, by omega, by omega⟩
      · exact Or.inl ⟨by omega, z2, z3⟩
theorem cp_at : ∀ c : Nat, c < 6 → cAT c < cBT c ∧ cAT (5 - c) = cNT (cAT c) (cBT c) ∧ cBT (5 - c) = dNT (cAT c) (cBT c) := by decide +kernel
theorem cp_of {a b : Nat} (h1 : a < b) (h2 : b < 4) : ∃ c : Nat, c < 6 ∧ cAT c = a ∧ cBT c = b := by
  have h6 : (a = 0 ∧ b = 1) ∨ (a = 0 ∧ b = 2) ∨ (a = 0 ∧ b = 3) ∨ (a = 1 ∧ b = 2) ∨ (a = 1 ∧ b = 3) ∨ (a = 2 ∧ b = 3) := by omega
  rcases h6 with ⟨rfl, rfl⟩ | ⟨rfl, rfl⟩ | ⟨rfl, rfl⟩ | ⟨rfl, rfl⟩ | ⟨rfl, rfl⟩ | ⟨rfl, rfl⟩
  · exact ⟨0, by omega, rfl, rfl⟩
  · exact ⟨1, by omega, rfl, rfl⟩
  · exact ⟨2, by omega, rfl, rfl⟩
  · exact ⟨3, by omega, rfl, rfl⟩
  · exact ⟨4, by omega, rfl, rfl⟩
  · exact ⟨5, by omega, rfl, rfl⟩
/-- the reference's couples are the class's -/
theorem t1_cp (hn : n ≤ 4) {x : Int32} {j : Nat} {t : Int32} {k : Nat} : T1r M n x j (fun a b => a < n ∧ a < b ∧ b < n) t k ↔ T1m (fun c => cBT c < n ∧ M (cAT c) (cBT c)) x j 6 t k := by
  constructor
  · rintro (⟨a, b, ⟨-, z2, z3⟩, q1, q2, q3⟩ | ⟨a, b, ⟨-, z2, z3⟩, q1, q2, q3, q4, q5⟩)
    · obtain ⟨c, c1, c2, c3⟩ := cp_of z2 (show b < 4 by omega)
      exact Or.inl ⟨c, c1, ⟨by rw [c3]; exact z3, by rw [c2, c3]; exact q1⟩, by rw [join_eq, c2, c3]; exact q2, q3⟩
    · obtain ⟨c, c1, c2, c3⟩ := cp_of z2 (show b < 4 by omega)
      obtain ⟨-, d2, d3⟩ := cp_at c c1
      rw [c2, c3] at d2 d3
      exact Or.inr ⟨c, c1, ⟨by rw [c3]; exact z3, by rw [c2, c3]; exact q1⟩, ⟨by rw [d3]; exact q2, by rw [d2, d3]; exact q3⟩, by rw [join_eq, join_eq, c2, c3, d2, d3]; exact q4, q5⟩
  · rintro (⟨c, c1, ⟨z1, z2⟩, q2, q3⟩ | ⟨c, c1, ⟨z1, z2⟩, ⟨w1, w2⟩, q2, q3⟩)
    · obtain ⟨d1, -, -⟩ := cp_at c c1
      exact Or.inl ⟨cAT c, cBT c, ⟨by omega, d1, z1⟩, z2, q2, q3⟩
    · obtain ⟨d1, d2, d3⟩ := cp_at c c1
      rw [d3] at w1
      rw [d2, d3] at w2
      rw [join_eq, join_eq, d2, d3] at q2
      exact Or.inr ⟨cAT c, cBT c, ⟨by omega, d1, z1⟩, z2, w1, w2, q2, q3⟩
end
section
variable {M : Nat → Nat → Prop} {P : Int32 → Nat → Prop} {n lc i h : Nat} {rA rB rF rT rW rO fn : Nat → Int32}
theorem ss_cst (hM : ∀ a b : Nat, (¬ F_X12_mayTrade rA rB rF rT rW rO lc i a b (h + 1) = 0 ↔ M a b)) (hn : n ≤ 4) (hle : ∀ (t : Int32) (m : Nat), P t m → m ≤ 14) (hfn : CS16 P fn) {f : Nat → Int32} (h0 : CS16 P f) : ∀ k : Nat, k ≤ 65536 → CS16 (fun t m => P t m ∨ ∃ (q j : Nat), q < k ∧ fn q = nI j ∧ P (nI q) j ∧ T1m (fun c => cBT c < n ∧ M (cAT c) (cBT c)) (nI q) j 6 t m) (L5_X12_layTrades rA rB rF rT rW rO lc n i h fn f k)
  | 0, _ => h0.iff fun t m => ⟨Or.inl, fun z => z.elim id fun ⟨_, _, z, _⟩ => absurd z (Nat.not_lt_zero _)⟩
  | k + 1, hk => by
    have ih := ss_cst hM hn hle hfn h0 k (by omega)
    have e : L5_X12_layTrades rA rB rF rT rW rO lc n i h fn f (k + 1) = L5_X12_layTradess rA rB rF rT rW rO lc n i h fn k (L5_X12_layTrades rA rB rF rT rW rO lc n i h fn f k) := rfl
    rw [e]
    generalize L5_X12_layTrades rA rB rF rT rW rO lc n i h fn f k = u at ih ⊢
    unfold L5_X12_layTradess
    rcases hfn k (by omega) with ⟨v1, v2⟩ | ⟨j, j1, j2, j3, j4⟩
    · rw [if_pos v1]
      refine ih.iff fun t m => or_congr Iff.rfl ⟨?_, ?_⟩
      · rintro ⟨q, j, a1, a2⟩; exact ⟨q, j, by omega, a2⟩
      · rintro ⟨q, j, a1, a2, a3, a4⟩
        refine ⟨q, j, ?_, a2, a3, a4⟩
        by_cases y : q = k
        · rw [y] at a3; exact absurd a3 (v2 j)
        · omega
    · have hj := hle _ _ j3
      have c1 : ¬ fn k = 99 := fun q => by
        rw [j2] at q
        have := (nI_eq (a := j) (b := 99) (by omega) (by omega)).mp q
        omega
      rw [if_neg c1]
      have g := aa_cst hM hn (show k < 65536 by omega) j2 hj ih n (Nat.le_refl _)
      refine g.iff fun t m => ?_
      rw [t1_cp hn]
      constructor
      · rintro ((z | ⟨q, x, a1, a2⟩) | z)
        · exact Or.inl z
        · exact Or.inr ⟨q, x, by omega, a2⟩
        · exact Or.inr ⟨k, j, Nat.lt_succ_self _, j2, j3, z⟩
      · rintro (z | ⟨q, x, a1, a2, a3, a4⟩)
        · exact Or.inl (Or.inl z)
        · by_cases y : q = k
          · rw [y] at a2 a3 a4
            have ei : x = j := (nI_eq (by have := hle _ _ a3; omega) (by omega)).mp (a2.symm.trans j2)
            rw [ei] at a4
            exact Or.inr a4
          · exact Or.inl (Or.inr ⟨q, x, by omega, a2, a3, a4⟩)
theorem l4_at {X : Nat → Int32} : ∀ k q : Nat, q < k → L4_X12_layTrades fn X k q = fn q
  | 0, q, z => absurd z (Nat.not_lt_zero _)
  | k + 1, q, z => by
    show upd (L4_X12_layTrades fn X k) k (fn k) q = fn q
    by_cases e : q = k
    · rw [e, upd_eq]
    · rw [upd_ne e]; exact l4_at k q (by omega)
theorem l6_at {X f : Nat → Int32} : ∀ k q : Nat, q < k → L6_X12_layTrades rA rB rF rT rW rO lc n i h fn X f k q = L5_X12_layTrades rA rB rF rT rW rO lc n i h fn (L4_X12_layTrades fn X 65536) 65536 q
  | 0, q, z => absurd z (Nat.not_lt_zero _)
  | k + 1, q, z => by
    show upd (L6_X12_layTrades rA rB rF rT rW rO lc n i h fn X f k) k (L5_X12_layTrades rA rB rF rT rW rO lc n i h fn (L4_X12_layTrades fn X 65536) 65536 k) q = _
    by_cases e : q = k
    · rw [e, upd_eq]
    · rw [upd_ne e]; exact l6_at k q (by omega)
end
section
variable {Mh : Nat → Nat → Nat → Prop} {n lc i : Nat} {rA rB rF rT rW rO : Nat → Int32}
/-- the reference's costs, hour by hour -/
theorem l3_cst (hM : ∀ h : Nat, h < 8 → ∀ a b : Nat, (¬ F_X12_mayTrade rA rB rF rT rW rO lc i a b (h + 1) = 0 ↔ Mh (h + 1) a b)) (hn : n ≤ 4) {s0 : Int32} (hs : sB 16 s0) {c0 x0 t0 : Nat → Int32} (h0 : CS16 (TP (fun h c => cBT c < n ∧ Mh h (cAT c) (cBT c)) s0 0) c0) (he : sB 16 (L2_X12_layTrades n 0 0 n).1) : ∀ j : Nat, j ≤ 8 → CS16 (TP (fun h c => cBT c < n ∧ Mh h (cAT c) (cBT c)) s0 j) (L3_X12_layTrades rA rB rF rT rW rO lc n i c0 x0 t0 j).1 ∧ ∀ m : Nat, 1 ≤ m → m ≤ j → MFr 99 (TP (fun h c => cBT c < n ∧ Mh h (cAT c) (cBT c)) s0 m (L2_X12_layTrades n 0 0 n).1) ((L3_X12_layTrades rA rB rF rT rW rO lc n i c0 x0 t0 j).2.2 m)
  | 0, _ => ⟨h0, fun m h1 h2 => absurd h1 (by omega)⟩
  | j + 1, hj => by
    obtain ⟨i1, i2⟩ := l3_cst hM hn hs h0 he (x0 := x0) (t0 := t0) j (by omega)
    have e : L3_X12_layTrades rA rB rF rT rW rO lc n i c0 x0 t0 (j + 1) = L3_X12_layTradess rA rB rF rT rW rO lc n i j (L3_X12_layTrades rA rB rF rT rW rO lc n i c0 x0 t0 j).1 (L3_X12_layTrades rA rB rF rT rW rO lc n i c0 x0 t0 j).2.1 (L3_X12_layTrades rA rB rF rT rW rO lc n i c0 x0 t0 j).2.2 := rfl
    rw [e]
    generalize L3_X12_layTrades rA rB rF rT rW rO lc n i c0 x0 t0 j = u at i1 i2 ⊢
    have g : CS16 (TP (fun h c => cBT c < n ∧ Mh h (cAT c) (cBT c)) s0 (j + 1)) (L6_X12_layTrades rA rB rF rT rW rO lc n i j u.1 u.2.1 u.1 65536) := fun q hq => by
      rw [l6_at 65536 q hq]
      exact cst_next pls16 (fun t k q => tp_cl hs (fun x c hx => jn_16 hx) j t k q) i1 (ss_cst (hM j (by omega)) hn (fun t k q => by have := tp_le j t k q; omega) i1 (fun q hq => by rw [l4_at 65536 q hq]; exact i1 q hq) 65536 (Nat.le_refl _)) q hq
    refine ⟨g, fun m h1 h2 => ?_⟩
    show MFr 99 _ (upd u.2.2 (j + 1) ((L6_X12_layTrades rA rB rF rT rW rO lc n i j u.1 u.2.1 u.1 65536) (tN (L2_X12_layTrades n 0 0 n).1)) m)
    by_cases y : m = j + 1
    · rw [y, upd_eq]
      obtain ⟨e1, e2⟩ := pls16.2 _ he
      have := g _ e1
      rw [e2] at this
      exact this
    · rw [upd_ne y]
      exact i2 m h1 (by omega)
end
theorem l1_at {c0 : Nat → Int32} : ∀ k q : Nat, q < k → L1_X12_layTrades c0 k q = 99
  | 0, q, z => absurd z (Nat.not_lt_zero _)
  | k + 1, q, z => by
    show upd (L1_X12_layTrades c0 k) k 99 q = 99
    by_cases e : q = k
    · rw [e, upd_eq]
    · rw [upd_ne e]; exact l1_at k q (by omega)
/-- first and last states, on both sides -/
theorem be_at : ∀ p : Nat, p < 5 → ((L2_X12_layTrades p 0 0 p).2 ||| ((33825 : Int32) ^^^ (L2_X12_layTrades p 0 0 p).2)) = 33825 ∧ ((L2_X12_layTrades p 0 0 p).1 ||| ((33825 : Int32) ^^^ (L2_X12_layTrades p 0 0 p).2)) = F_X9_goal p ∧ (∀ i : Nat, i < 4 * p → bt ((33825 : Int32) ^^^ (L2_X12_layTrades p 0 0 p).2) i = false) ∧ ∀ i : Nat, i < 32 → 4 * p ≤ i → bt (L2_X12_layTrades p 0 0 p).1 i = false ∧ bt (L2_X12_layTrades p 0 0 p).2 i = false := by decide +kernel
theorem goal_9 : ∀ p : Nat, p < 5 → (∀ i : Nat, i < 32 → 16 ≤ i → bt (F_X9_goal p) i = false) ∧ F_X9_goal p &&& 33825 = 33825 := by decide +kernel
/-! which couples are open -/
def Mw (w : VV) (h a b : Nat) : Prop := ∃ l : Nat, l < w.lc ∧ b1 (w.L (l * 6 + 4)) = 0 ∧ ¬ F_X10_works w.L l (nI h) = 0 ∧ nI a = mn2 (w.L (l * 6)) (w.L (l * 6 + 1)) ∧ nI b = mx2 (w.L (l * 6)) (w.L (l * 6 + 1))
def Ow (w : VV) (h c : Nat) : Prop := cBT c < w.p ∧ Mw w h (cAT c) (cBT c)
theorem mnx {x y : Nat} (hx : x < 7) (hy : y < 7) : mn2 (nI x) (nI y) = nI (min x y) ∧ mx2 (nI x) (nI y) = nI (max x y) := by
  have e1 := nI_ltI (a := y) (b := x) (by omega) (by omega)
  have e2 := nI_ltI (a := x) (b := y) (by omega) (by omega)
  unfold mn2 mx2
  constructor
  · by_cases c : nI y < nI x
    · have := e1.mp c
      rw [if_pos c, Nat.min_eq_right (by omega)]
    · have : ¬ y < x := fun q => c (e1.mpr q)
      rw [if_neg c, Nat.min_eq_left (by omega)]
  · by_cases c : nI x < nI y
    · have := e2.mp c
      rw [if_pos c, Nat.max_eq_right (by omega)]
    · have : ¬ x < y := fun q => c (e2.mpr q)
      rw [if_neg c, Nat.max_eq_left (by omega)]
theorem mw_lt {w : VV} (ok : VOK w) {h a b : Nat} (hb : b < 2 ^ 31) (q : Mw w h a b) : b < w.p := by
  obtain ⟨l, hl, -, -, -, e⟩ := q
  have hp := ok.1
  obtain ⟨e1, e2, e3, e4⟩ := ends_at ok.2.2.1 hp hl
  rw [e1, e2, (mnx (by omega) (by omega)).2] at e
  have := (nI_eq (a := b) (b := max (lnA w.L l) (lnB w.L l)) (by omega) (by omega)).mp e
  omega
theorem la_0 {fo : Nat → Int32} : ∀ k c : Nat, c < k → L1_X9_lookAtLines fo k c = 0
  | 0, c, z => absurd z (Nat.not_lt_zero _)
  | k + 1, c, z => by
    show upd (L1_X9_lookAtLines fo k) k 0 c = 0
    by_cases e : c = k
    · rw [e, upd_eq]
    · rw [upd_ne e]; exact la_0 k c (by omega)
theorem la_3 {L u : Nat → Int32} {l c : Nat} : ∀ m : Nat, (¬ L3_X9_lookAtLines L l u m c = 0 ↔ ¬ u c = 0 ∨ (c < m ∧ nI (cAT c) = mn2 (L (l * 6)) (L (l * 6 + 1)) ∧ nI (cBT c) = mx2 (L (l * 6)) (L (l * 6 + 1))))
  | 0 => ⟨Or.inl, fun z => z.elim id fun z => absurd z.1 (Nat.not_lt_zero _)⟩
  | m + 1 => by
    have ih := la_3 (L := L) (u := u) (l := l) (c := c) m
    have e : L3_X9_lookAtLines L l u (m + 1) = L3_X9_lookAtLiness L l m (L3_X9_lookAtLines L l u m) := rfl
    rw [e]
    generalize L3_X9_lookAtLines L l u m = v at ih ⊢
    unfold L3_X9_lookAtLiness
    have no : ¬ (nI (cAT m) = mn2 (L (l * 6)) (L (l * 6 + 1)) ∧ nI (cBT m) = mx2 (L (l * 6)) (L (l * 6 + 1))) → (¬ v c = 0 ↔ ¬ u c = 0 ∨ (c < m + 1 ∧ nI (cAT c) = mn2 (L (l * 6)) (L (l * 6 + 1)) ∧ nI (cBT c) = mx2 (L (l * 6)) (L (l * 6 + 1)))) := fun hno => ih.trans (or_congr Iff.rfl ⟨fun z => ⟨by omega, z.2⟩, fun z => ⟨by
      by_cases y : c = m
      · rw [y] at z; exact absurd z.2 hno
      · omega, z.2⟩⟩)
    by_cases c1 : nI (cAT m) = mn2 (L (l * 6)) (L (l * 6 + 1))
    · rw [if_pos c1]
      by_cases c2 : nI (cBT m) = mx2 (L (l * 6)) (L (l * 6 + 1))
      · rw [if_pos c2]
        by_cases y : c = m
        · rw [y, upd_eq]
          exact ⟨fun _ => Or.inr ⟨Nat.lt_succ_self _, c1, c2⟩, fun _ => by decide⟩
        · rw [upd_ne y]
          exact ih.trans (or_congr Iff.rfl ⟨fun z => ⟨by omega, z.2⟩, fun z => ⟨by omega, z.2⟩⟩)
      · rw [if_neg c2]; exact no fun z => c2 z.2
    · rw [if_neg c1]; exact no fun z => c1 z.1
theorem la_2 {L u : Nat → Int32} {h : Int32} {c : Nat} (hc : c < 6) : ∀ k : Nat, (¬ L2_X9_lookAtLines L h u k c = 0 ↔ ¬ u c = 0 ∨ ∃ l : Nat, l < k ∧ b1 (L (l * 6 + 4)) = 0 ∧ ¬ F_X10_works L l h = 0 ∧ nI (cAT c) = mn2 (L (l * 6)) (L (l * 6 + 1)) ∧ nI (cBT c) = mx2 (L (l * 6)) (L (l * 6 + 1)))
  | 0 => ⟨Or.inl, fun z => z.elim id fun ⟨_, z, _⟩ => absurd z (Nat.not_lt_zero _)⟩
  | k + 1 => by
    have ih := la_2 (L := L) (u := u) (h := h) hc k
    have e : L2_X9_lookAtLines L h u (k + 1) = L2_X9_lookAtLiness L h k (L2_X9_lookAtLines L h u k) := rfl
    rw [e]
    generalize L2_X9_lookAtLines L h u k = v at ih ⊢
    unfold L2_X9_lookAtLiness
    have no : ¬ (b1 (L (k * 6 + 4)) = 0 ∧ ¬ F_X10_works L k h = 0) → (¬ v c = 0 ↔ ¬ u c = 0 ∨ ∃ l : Nat, l < k + 1 ∧ b1 (L (l * 6 + 4)) = 0 ∧ ¬ F_X10_works L l h = 0 ∧ nI (cAT c) = mn2 (L (l * 6)) (L (l * 6 + 1)) ∧ nI (cBT c) = mx2 (L (l * 6)) (L (l * 6 + 1))) := fun hno => ih.trans (or_congr Iff.rfl ⟨fun ⟨l, z, q⟩ => ⟨l, by omega, q⟩, fun ⟨l, z, q1, q2, q3⟩ => ⟨l, by
      by_cases y : l = k
      · rw [y] at q1 q2; exact absurd ⟨q1, q2⟩ hno
      · omega, q1, q2, q3⟩⟩)
    by_cases c1 : b1 (L (k * 6 + 4)) = 0
    · rw [if_pos c1]
      by_cases c2 : F_X10_works L k h = 0
      · rw [if_pos c2]; exact no fun z => z.2 c2
      · rw [if_neg c2, la_3, ih, or_assoc]
        refine or_congr Iff.rfl ⟨?_, ?_⟩
        · rintro (⟨l, z, q⟩ | ⟨-, q⟩)
          · exact ⟨l, by omega, q⟩
          · exact ⟨k, Nat.lt_succ_self _, c1, c2, q⟩
        · rintro ⟨l, z, q1, q2, q3⟩
          by_cases y : l = k
          · rw [y] at q3; exact Or.inr ⟨hc, q3⟩
          · exact Or.inl ⟨l, by omega, q1, q2, q3⟩
    · rw [if_neg c1]; exact no fun z => c1 z.1
theorem la_open {w : VV} (ok : VOK w) {h c : Nat} (hc : c < 6) {fo : Nat → Int32} : ¬ F_X9_lookAtLines fo w.lc w.L (nI h) c = 0 ↔ Ow w h c := by
  have q := la_2 (L := w.L) (u := L1_X9_lookAtLines fo 6) (h := nI h) hc w.lc
  rw [la_0 6 c hc] at q
  have hb := cBT_lt c
  exact (show ¬ F_X9_lookAtLines fo w.lc w.L (nI h) c = 0 ↔ _ from q).trans ⟨fun z => z.elim (fun z => absurd rfl z) fun z => ⟨mw_lt ok (by omega) (show Mw w h (cAT c) (cBT c) from z), z⟩, fun z => Or.inr z.2⟩
theorem mt_1 {rA rB rF rT rW rO : Nat → Int32} {lc i a b h : Nat} (hlc : lc ≤ 12) : ∀ m j : Nat, lc + 1 ≤ m + j → j ≤ lc → (¬ L1_X12_mayTrade rA rB rF rT rW rO lc i a b h m j = 0 ↔ ∃ l : Nat, j ≤ l ∧ l < lc ∧ rO (12 * i + l) = 0 ∧ ¬ F_X12_joins rA rB rO (12 * i + l) (nI a) (nI b) = 0 ∧ ¬ F_X12_works rF rT rW (12 * i + l) (nI h) = 0)
  | 0, j, z1, z2 => by omega
  | m + 1, j, z1, z2 => by
    rw [L1_X12_mayTrade]
    by_cases c1 : nI lc ≤ nI j
    · rw [if_pos c1]
      have := (nI_leI (a := lc) (b := j) (by omega) (by omega)).mp c1
      exact ⟨fun z => absurd rfl z, fun ⟨l, w1, w2, _⟩ => by omega⟩
    · rw [if_neg c1]
      have hj : j < lc := by
        have z : ¬ lc ≤ j := fun z => c1 ((nI_leI (by omega) (by omega)).mpr z)
        omega
      have ih := mt_1 (rA := rA) (rB := rB) (rF := rF) (rT := rT) (rW := rW) (rO := rO) (i := i) (a := a) (b := b) (h := h) hlc m (j + 1) (by omega) (by omega)
      have skip : ¬ (rO (12 * i + j) = 0 ∧ ¬ F_X12_joins rA rB rO (12 * i + j) (nI a) (nI b) = 0 ∧ ¬ F_X12_works rF rT rW (12 * i + j) (nI h) = 0) → (¬ L1_X12_mayTrade rA rB rF rT rW rO lc i a b h m (j + 1) = 0 ↔ ∃ l : Nat, j ≤ l ∧ l < lc ∧ rO (12 * i + l) = 0 ∧ ¬ F_X12_joins rA rB rO (12 * i + l) (nI a) (nI b) = 0 ∧ ¬ F_X12_works rF rT rW (12 * i + l) (nI h) = 0) := fun hno => ih.trans ⟨fun ⟨l, w1, w2⟩ => ⟨l, by omega, w2⟩, fun ⟨l, w1, w2, w3⟩ => ⟨l, by
        by_cases y : l = j
        · rw [y] at w3; exact absurd w3 hno
        · omega, w2, w3⟩⟩
      by_cases c2 : rO (12 * i + j) = 0
      · rw [if_pos c2]
        by_cases c3 : F_X12_joins rA rB rO (12 * i + j) (nI a) (nI b) = 0
        · rw [if_pos c3]; exact skip fun z => z.2.1 c3
        · rw [if_neg c3]
          by_cases c4 : F_X12_works rF rT rW (12 * i + j) (nI h) = 0
          · rw [if_pos c4]; exact skip fun z => z.2.2 c4
          · rw [if_neg c4]
            exact ⟨fun _ => ⟨j, Nat.le_refl _, hj, c2, c3, c4⟩, fun _ => by decide⟩
      · rw [if_neg c2]; exact skip fun z => c2 z.1
theorem joins_0 {rA rB rO : Nat → Int32} {k : Nat} {a b : Int32} (h : rO k = 0) : ¬ F_X12_joins rA rB rO k a b = 0 ↔ (rA k = a ∧ rB k = b) ∨ (rA k = b ∧ rB k = a) := by
  unfold F_X12_joins
  rw [if_pos h]
  by_cases c1 : rA k = a
  · by_cases c2 : rB k = b
    · rw [if_pos c1, if_pos c2]
      exact ⟨fun _ => Or.inl ⟨c1, c2⟩, fun _ => by decide⟩
    · by_cases c3 : rA k = b
      · by_cases c4 : rB k = a
        · rw [if_pos c1, if_neg c2, if_pos c3, if_pos c4]
          exact ⟨fun _ => Or.inr ⟨c3, c4⟩, fun _ => by decide⟩
        · rw [if_pos c1, if_neg c2, if_pos c3, if_neg c4]
          exact ⟨fun q => absurd rfl q, fun q => q.elim (fun z => absurd z.2 c2) fun z => absurd z.2 c4⟩
      · rw [if_pos c1, if_neg c2, if_neg c3]
        exact ⟨fun q => absurd rfl q, fun q => q.elim (fun z => absurd z.2 c2) fun z => absurd z.1 c3⟩
  · by_cases c3 : rA k = b
    · by_cases c4 : rB k = a
      · rw [if_neg c1, if_pos c3, if_pos c4]
        exact ⟨fun _ => Or.inr ⟨c3, c4⟩, fun _ => by decide⟩
      · rw [if_neg c1, if_pos c3, if_neg c4]
        exact ⟨fun q => absurd rfl q, fun q => q.elim (fun z => absurd z.1 c1) fun z => absurd z.2 c4⟩
    · rw [if_neg c1, if_neg c3]
      exact ⟨fun q => absurd rfl q, fun q => q.elim (fun z => absurd z.1 c1) fun z => absurd z.1 c3⟩
theorem mt_iff {F : Nat → Nat → Int32} {i a b h : Nat} {w : VV} (ok : VOK w) (ow : OWB w) (hr : RP1 F i w) (hab : a < b) (hb : b < 4) : ¬ F_X12_mayTrade (F 12) (F 13) (F 14) (F 15) (F 16) (F 17) w.lc i a b h = 0 ↔ Mw w h a b := by
  have q := mt_1 (rA := F 12) (rB := F 13) (rF := F 14) (rT := F 15) (rW := F 16) (rO := F 17) (i := i) (a := a) (b := b) (h := h) ok.2.1 (w.lc + 1) 0 (by omega) (Nat.zero_le _)
  refine (show ¬ F_X12_mayTrade (F 12) (F 13) (F 14) (F 15) (F 16) (F 17) w.lc i a b h = 0 ↔ _ from q).trans ?_
  have hp := ok.1
  have one : ∀ l : Nat, l < w.lc → (F 17 (12 * i + l) = 0 ∧ ¬ F_X12_joins (F 12) (F 13) (F 17) (12 * i + l) (nI a) (nI b) = 0 ∧ ¬ F_X12_works (F 14) (F 15) (F 16) (12 * i + l) (nI h) = 0 ↔ b1 (w.L (l * 6 + 4)) = 0 ∧ ¬ F_X10_works w.L l (nI h) = 0 ∧ nI a = mn2 (w.L (l * 6)) (w.L (l * 6 + 1)) ∧ nI b = mx2 (w.L (l * 6)) (w.L (l * 6 + 1))) := fun l hl => by
    obtain ⟨r1, r2, r3, r4, r5, r6⟩ := hr.2.2.2.2.1 l hl
    obtain ⟨e1, e2, e3, e4⟩ := ends_at ok.2.2.1 hp hl
    obtain ⟨x1, x2⟩ := mnx (x := lnA w.L l) (y := lnB w.L l) (by omega) (by omega)
    have eb : b1 (w.L (l * 6 + 4)) = 0 ↔ F 17 (12 * i + l) = 0 := by
      rw [r6]
      rcases ow l hl with z | z
      · rw [z]; exact ⟨fun _ => rfl, fun _ => by decide⟩
      · rw [z]; exact ⟨fun q => absurd q (by decide), fun q => absurd q (by decide)⟩
    rw [eb, works_agree (L := w.L) (j := l) r3 r4 r5]
    refine and_congr_right fun z => ?_
    rw [joins_0 z, r1, r2, e1, e2, x1, x2]
    have n1 := nI_eq (a := lnA w.L l) (b := a) (by omega) (by omega)
    have n2 := nI_eq (a := lnB w.L l) (b := b) (by omega) (by omega)
    have n3 := nI_eq (a := lnA w.L l) (b := b) (by omega) (by omega)
    have n4 := nI_eq (a := lnB w.L l) (b := a) (by omega) (by omega)
    have n5 := nI_eq (a := a) (b := min (lnA w.L l) (lnB w.L l)) (by omega) (by omega)
    have n6 := nI_eq (a := b) (b := max (lnA w.L l) (lnB w.L l)) (by omega) (by omega)
    rw [n1, n2, n3, n4, n5, n6]
    constructor
    · rintro ⟨q1, q2⟩
      exact ⟨q2, by omega, by omega⟩
    · rintro ⟨q1, q2, q3⟩
      exact ⟨by omega, q1⟩
  constructor
  · rintro ⟨l, -, hl, z⟩
    exact ⟨l, hl, (one l hl).mp z⟩
  · rintro ⟨l, hl, z⟩
    exact ⟨l, Nat.zero_le _, hl, (one l hl).mpr z⟩
theorem tp_cong {O O2 : Nat → Nat → Prop} {s0 : Int32} (e : ∀ h c : Nat, c < 6 → (O h c ↔ O2 h c)) : ∀ (h : Nat) (t : Int32) (k : Nat), TP O s0 h t k ↔ TP O2 s0 h t k
  | 0, _, _ => Iff.rfl
  | h + 1, t, k => by
    have ih := tp_cong (s0 := s0) e h
    constructor
    · rintro (q | ⟨s, c, j, a1, a2, a3, a4⟩ | ⟨s, c, j, a1, a2, a3, a4, a5⟩)
      · exact Or.inl ((ih t k).mp q)
      · exact Or.inr (Or.inl ⟨s, c, j, (ih s j).mp a1, a2, (e _ c a2).mp a3, a4⟩)
      · exact Or.inr (Or.inr ⟨s, c, j, (ih s j).mp a1, a2, (e _ c a2).mp a3, (e _ _ (by omega)).mp a4, a5⟩)
    · rintro (q | ⟨s, c, j, a1, a2, a3, a4⟩ | ⟨s, c, j, a1, a2, a3, a4, a5⟩)
      · exact Or.inl ((ih t k).mpr q)
      · exact Or.inr (Or.inl ⟨s, c, j, (ih s j).mpr a1, a2, (e _ c a2).mpr a3, a4⟩)
      · exact Or.inr (Or.inr ⟨s, c, j, (ih s j).mpr a1, a2, (e _ c a2).mpr a3, (e _ _ (by omega)).mpr a4, a5⟩)

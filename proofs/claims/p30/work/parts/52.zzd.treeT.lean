/-! trees: cards in the order of the times, on both sides -/
/-- one comes ahead of another on a card -/
def bfr (t : Nat → Nat) (o q : Nat) : Prop := t q < t o ∨ (t q = t o ∧ o < q)
theorem bfr_as {t : Nat → Nat} {o q : Nat} (h : bfr t o q) : ¬ bfr t q o := by unfold bfr at *; omega
theorem bfr_ir {t : Nat → Nat} {o : Nat} : ¬ bfr t o o := by unfold bfr; omega
/-! the slowest of some -/
abbrev tvl (tm : Nat → Int32) (y : Nat) : Nat := tN (tm y)
def TMS (tm : Nat → Int32) (l : List Nat) : Prop := ∀ y ∈ l, tm y = nI (tN (tm y)) ∧ tN (tm y) < 2 ^ 20
theorem nI_gm {k : Nat} (hk : k < 2 ^ 30) : ¬ nI k ≤ (-1 : Int32) := fun h => by
  have h1 := Int32.le_iff_toInt_le.mp h
  rw [nI_toInt (by omega), show (-1 : Int32).toInt = -1 from by decide] at h1
  omega
theorem slo_inv {tm : Nat → Int32} {s : Int32} (ht : ∀ y : Nat, y < 7 → bt s y = true → tm y = nI (tN (tm y)) ∧ tN (tm y) < 2 ^ 20) : ∀ k : Nat, k ≤ 7 → ((∀ y : Nat, y < k → bt s y = false) ∧ L1_X0_slowest tm s (-1) 0 k = (-1, 0)) ∨ ∃ x : Nat, x < k ∧ bt s x = true ∧ L1_X0_slowest tm s (-1) 0 k = (tm x, nI x) ∧ ∀ y : Nat, y < k → bt s y = true → ¬ y = x → bfr (tvl tm) x y
  | 0, _ => Or.inl ⟨fun y h => absurd h (Nat.not_lt_zero y), rfl⟩
  | k + 1, hk => by
    have ih := slo_inv ht k (by omega)
    have e : L1_X0_slowest tm s (-1) 0 (k + 1) = L1_X0_slowests tm s k (L1_X0_slowest tm s (-1) 0 k).1 (L1_X0_slowest tm s (-1) 0 k).2 := rfl
    rw [e]
    cases b : bt s k with
    | false =>
      have e2 : ∀ a c_ : Int32, L1_X0_slowests tm s k a c_ = (a, c_) := fun a c_ => by unfold L1_X0_slowests; rw [if_pos ((hvb_0 (by omega)).mpr b)]
      rw [e2]
      rcases ih with ⟨h1, h2⟩ | ⟨x, h1, h2, h3, h4⟩
      · refine Or.inl ⟨fun y hy => ?_, by rw [h2]⟩
        by_cases q : y = k
        · subst q; exact b
        · exact h1 y (by omega)
      · refine Or.inr ⟨x, by omega, h2, by rw [h3], fun y hy hb hn => ?_⟩
        by_cases q : y = k
        · subst q; rw [b] at hb; cases hb
        · exact h4 y (by omega) hb hn
    | true =>
      obtain ⟨t1, t2⟩ := ht k (by omega) b
      have nb : ¬ hasv s (nI k) = 0 := fun q => by rw [(hvb_0 (by omega)).mp q] at b; cases b
      rcases ih with ⟨h1, h2⟩ | ⟨x, h1, h2, h3, h4⟩
      · rw [h2]
        refine Or.inr ⟨k, by omega, b, ?_, fun y hy hb hn => ?_⟩
        · unfold L1_X0_slowests
          rw [if_neg nb, if_neg (show ¬ tm k ≤ -1 by rw [t1]; exact nI_gm (by omega))]
        · rw [h1 y (by omega)] at hb; cases hb
      · rw [h3]
        obtain ⟨u1, u2⟩ := ht x (by omega) h2
        by_cases c1 : tm k ≤ tm x
        · have c2 : tN (tm k) ≤ tN (tm x) := by
            rw [t1, u1] at c1
            exact (nI_leI (a := tN (tm k)) (b := tN (tm x)) (by omega) (by omega)).mp c1
          refine Or.inr ⟨x, by omega, h2, ?_, fun y hy hb hn => ?_⟩
          · unfold L1_X0_slowests
            rw [if_neg nb, if_pos c1]
          · by_cases q : y = k
            · subst q
              show tN (tm y) < tN (tm x) ∨ (tN (tm y) = tN (tm x) ∧ x < y)
              omega
            · exact h4 y (by omega) hb hn
        · have c2 : tN (tm x) < tN (tm k) := Nat.lt_of_not_le fun q => c1 (by
            rw [t1, u1]
            exact (nI_leI (a := tN (tm k)) (b := tN (tm x)) (by omega) (by omega)).mpr q)
          refine Or.inr ⟨k, by omega, b, ?_, fun y hy hb hn => ?_⟩
          · unfold L1_X0_slowests
            rw [if_neg nb, if_neg c1]
          · show tN (tm y) < tN (tm k) ∨ (tN (tm y) = tN (tm k) ∧ k < y)
            by_cases q : y = x
            · subst q; exact Or.inl c2
            · have h5 : tN (tm y) < tN (tm x) ∨ (tN (tm y) = tN (tm x) ∧ x < y) := h4 y (by omega) hb q
              omega
/-- a set told as a card in the order of the times -/
def SL (tm : Nat → Int32) (s : Int32) (l : List Nat) : Prop := (∀ y : Nat, y < 32 → (bt s y = true ↔ y ∈ l)) ∧ (∀ y ∈ l, y < 7) ∧ l.Pairwise (bfr (tvl tm)) ∧ TMS tm l
theorem SL.nil {tm : Nat → Int32} {s : Int32} (h : SL tm s []) : s = 0 := b_ext fun i hi => by
  rw [b_0]
  cases e : bt s i with
  | false => rfl
  | true => have := (h.1 i hi).mp e; cases this
theorem SL.cons {tm : Nat → Int32} {s : Int32} {x : Nat} {l : List Nat} (h : SL tm s (x :: l)) : ¬ s = 0 ∧ F_X0_slowest tm s = nI x ∧ SL tm (s &&& (((1 : Int32) <<< (nI x &&& 31)) ^^^ (-1 : Int32))) l := by
  obtain ⟨h1, h2, h3, h4⟩ := h
  have hx := h2 x List.mem_cons_self
  have bx := (h1 x (by omega)).mpr List.mem_cons_self
  obtain ⟨p1, p2⟩ := List.pairwise_cons.mp h3
  refine ⟨fun q => (by rw [q, b_0] at bx; cases bx), ?_, fun y hy => ?_, fun y hy => h2 y (List.mem_cons_of_mem _ hy), p2, fun y hy => h4 y (List.mem_cons_of_mem _ hy)⟩
  · rcases slo_inv (tm := tm) (s := s) (fun y hy hb => h4 y ((h1 y (by omega)).mp hb)) 7 (Nat.le_refl _) with ⟨q, -⟩ | ⟨z, q1, q2, q3, q4⟩
    · rw [q x hx] at bx; cases bx
    · show (L1_X0_slowest tm s (-1) 0 7).2 = nI x
      rw [q3]
      by_cases e : x = z
      · rw [e]
      · have g1 := q4 x hx bx e
        rcases List.mem_cons.mp ((h1 z (by omega)).mp q2) with g | g
        · exact absurd g.symm e
        · exact absurd (p1 z g) (bfr_as g1)
  · rw [b_and, b_nt _ hy, b_sh1 (by omega) hy, Bool.and_eq_true]
    constructor
    · rintro ⟨a, b⟩
      rcases List.mem_cons.mp ((h1 y hy).mp a) with g | g
      · subst g
        rw [decide_eq_true (rfl : y = y)] at b
        exact absurd b (by decide)
      · exact g
    · intro g
      refine ⟨(h1 y hy).mpr (List.mem_cons_of_mem _ g), ?_⟩
      rw [decide_eq_false (fun q => by subst q; exact bfr_ir (p1 _ g))]
      rfl
/-- the greatest of places and times -/
def mxl (tm : Nat → Int32) : Nat → Int32 → List Nat → Int32
  | _, a, [] => a
  | j, a, x :: r => mxl tm (j + 1) (mx2 a (nI (j + 1) + tm x)) r
/-- the i-th of a card -/
def blw : Nat → Int32 → List Nat → Int32
  | _, _, [] => -1
  | j, i, x :: r => if nI j = i then nI x else blw (j + 1) i r
theorem tO_ok {tm : Nat → Int32} : ∀ (m j : Nat) (s a : Int32) (l : List Nat), SL tm s l → j + l.length ≤ 6 → l.length < m → L1_X0_timeOf tm m j s a = mxl tm j a l
  | 0, _, _, _, _, _, _, h => absurd h (Nat.not_lt_zero _)
  | m + 1, j, s, a, [], h, _, _ => by
    rw [L1_X0_timeOf, if_pos h.nil]; rfl
  | m + 1, j, s, a, x :: l, h, h6, hm => by
    obtain ⟨h1, h2, h3⟩ := h.cons
    have hx := h.2.1 x List.mem_cons_self
    have h6' : j + (l.length + 1) ≤ 6 := h6
    have hm' : l.length + 1 < m + 1 := hm
    rw [L1_X0_timeOf, if_neg h1, if_neg (show ¬ (7 : Int32) ≤ nI (j + 1) from fun q => by have := (nI_leI (a := 7) (b := j + 1) (by omega) (by omega)).mp q; omega), h2, tN_nI (by omega)]
    exact tO_ok m (j + 1) _ _ l h3 (by omega) (by omega)
theorem bl_ok {tm : Nat → Int32} {i : Int32} : ∀ (m j : Nat) (s : Int32) (l : List Nat), SL tm s l → j + l.length ≤ 6 → l.length < m → L1_X0_below tm i m j s = blw j i l
  | 0, _, _, _, _, _, h => absurd h (Nat.not_lt_zero _)
  | m + 1, j, s, [], h, _, _ => by
    rw [L1_X0_below, if_pos h.nil]; rfl
  | m + 1, j, s, x :: l, h, h6, hm => by
    obtain ⟨h1, h2, h3⟩ := h.cons
    have hx := h.2.1 x List.mem_cons_self
    have h6' : j + (l.length + 1) ≤ 6 := h6
    have hm' : l.length + 1 < m + 1 := hm
    rw [L1_X0_below, if_neg h1, if_neg (show ¬ (7 : Int32) ≤ nI j from fun q => by have := (nI_leI (a := 7) (b := j) (by omega) (by omega)).mp q; omega), h2, tN_nI (by omega)]
    rw [blw, bl_ok m (j + 1) _ l h3 (by omega) (by omega)]
/-! the tree as it is: those below one, apart from one another -/
def chd (nb : Nat → Nat → Prop) (p on : Nat) (ab : Int32) (o : Nat) : Prop := o < p ∧ ¬ nI o = ab ∧ ¬ o = on ∧ nb on o
def TRS (nb : Nat → Nat → Prop) (p : Nat) : Nat → Nat → Int32 → (Nat → Prop) → Prop
  | 0, _, _, _ => False
  | f + 1, on, ab, W => on < p ∧ W on ∧ ∃ S : Nat → Nat → Prop, (∀ o : Nat, chd nb p on ab o → TRS nb p f o (nI on) (S o) ∧ ¬ S o on ∧ (∀ y : Nat, S o y → W y) ∧ ∀ q : Nat, chd nb p on ab q → ¬ q = o → ∀ y : Nat, S o y → ¬ S q y) ∧ ∀ y : Nat, W y → y = on ∨ ∃ o : Nat, chd nb p on ab o ∧ S o y
theorem TRS.me {nb : Nat → Nat → Prop} {p f on : Nat} {ab : Int32} {W : Nat → Prop} (h : TRS nb p f on ab W) : on < p ∧ W on := by
  cases f with
  | zero => exact h.elim
  | succ f => exact ⟨h.1, h.2.1⟩
theorem TRS.pl_ {nb : Nat → Nat → Prop} {p : Nat} (hp : p ≤ 7) : ∀ (f on : Nat) (ab : Int32) (W : Nat → Prop), TRS nb p f on ab W → TPl nb p f on ab W
  | 0, _, _, _, h => h.elim
  | f + 1, on, ab, W, h => by
    obtain ⟨h1, h2, S, h3, -⟩ := h
    refine ⟨by omega, h2, fun o ho a b c_ => ?_⟩
    obtain ⟨q1, q2, q3, -⟩ := h3 o ⟨ho, a, b, c_⟩
    exact ⟨S o, TRS.pl_ hp f o (nI on) (S o) q1, q2, q3⟩
theorem TRS.pl {nb : Nat → Nat → Prop} {p f on : Nat} {ab : Int32} {W : Nat → Prop} (hp : p ≤ 7) (h : TRS nb p f on ab W) : TPl nb p f on ab W := TRS.pl_ hp f on ab W h
/-- n below one, in the order of the times -/
def OC (nb : Nat → Nat → Prop) (p on : Nat) (ab : Int32) (T : Nat → Int32) (n : Nat) (x : Nat → Nat) : Prop := n ≤ 6 ∧ (∀ k : Nat, k < n → chd nb p on ab (x k)) ∧ (∀ o : Nat, chd nb p on ab o → ∃ k : Nat, k < n ∧ x k = o) ∧ ∀ i k : Nat, i < k → k < n → bfr (tvl T) (x i) (x k)
abbrev crd (n : Nat) (x : Nat → Nat) : List Nat := (List.range n).map x
def TMV (T : Nat → Int32) (b o : Nat) : Prop := T o = nI (tN (T o)) ∧ tN (T o) ≤ b
def RT (nb : Nat → Nat → Prop) (p : Nat) (B M T : Nat → Int32) : Nat → Nat → Int32 → Prop
  | 0, _, _ => False
  | f + 1, on, ab => (∃ (n : Nat) (x : Nat → Nat), OC nb p on ab T n x ∧ M on = nI n ∧ (∀ k : Nat, k < n → B (7 * on + k) = nI (x k)) ∧ T on = mxl T 0 0 (crd n x)) ∧ TMV T (7 * (f + 1)) on ∧ ∀ o : Nat, chd nb p on ab o → RT nb p B M T f o (nI on)
theorem mxl_cg {T T' : Nat → Int32} : ∀ (l : List Nat) (j : Nat) (a : Int32), (∀ y ∈ l, T' y = T y) → mxl T' j a l = mxl T j a l
  | [], _, _, _ => rfl
  | x :: l, j, a, h => by
    rw [mxl, mxl, h x List.mem_cons_self]
    exact mxl_cg l (j + 1) _ fun y hy => h y (List.mem_cons_of_mem _ hy)
theorem mem_crd {n : Nat} {x : Nat → Nat} {y : Nat} : y ∈ crd n x ↔ ∃ k : Nat, k < n ∧ x k = y := by
  rw [List.mem_map]
  constructor
  · rintro ⟨k, h1, h2⟩; exact ⟨k, List.mem_range.mp h1, h2⟩
  · rintro ⟨k, h1, h2⟩; exact ⟨k, List.mem_range.mpr h1, h2⟩
theorem mx2_nI {a b : Nat} (ha : a < 2 ^ 30) (hb : b < 2 ^ 30) : mx2 (nI a) (nI b) = nI (Nat.max a b) := by
  unfold mx2
  by_cases h : a < b
  · rw [if_pos ((nI_ltI (a := a) (b := b) (by omega) (by omega)).mpr h), show Nat.max a b = b from Nat.max_eq_right (by omega)]
  · rw [if_neg (fun q => h ((nI_ltI (a := a) (b := b) (by omega) (by omega)).mp q)), show Nat.max a b = a from Nat.max_eq_left (by omega)]
theorem mxl_in {T : Nat → Int32} {b : Nat} (hb : b < 2 ^ 20) : ∀ (l : List Nat) (j a : Nat), (∀ y ∈ l, TMV T b y) → j + l.length ≤ 6 → a ≤ 6 + b → ∃ m : Nat, m ≤ 6 + b ∧ mxl T j (nI a) l = nI m
  | [], _, a, _, _, ha => ⟨a, ha, rfl⟩
  | x :: l, j, a, h, h6, ha => by
    obtain ⟨h1, h2⟩ := h x List.mem_cons_self
    have h6' : j + (l.length + 1) ≤ 6 := h6
    have e : nI (j + 1) + T x = nI (j + 1 + tN (T x)) := by
      rw [h1, tN_nI (by omega)]; exact nI_add _ _
    rw [mxl, e, mx2_nI (by omega) (by omega)]
    refine mxl_in hb l (j + 1) _ (fun y hy => h y (List.mem_cons_of_mem _ hy)) (by omega) ?_
    exact Nat.max_le.mpr ⟨ha, by omega⟩
theorem crd_len {n : Nat} {x : Nat → Nat} : (crd n x).length = n := by rw [List.length_map, List.length_range]
theorem OC.cg {nb : Nat → Nat → Prop} {p on n : Nat} {ab : Int32} {T T' : Nat → Int32} {x : Nat → Nat} (h : OC nb p on ab T n x) (e : ∀ o : Nat, chd nb p on ab o → T' o = T o) : OC nb p on ab T' n x := by
  obtain ⟨h1, h2, h3, h4⟩ := h
  refine ⟨h1, h2, h3, fun i k hi hk => ?_⟩
  have := h4 i k hi hk
  unfold bfr tvl at this ⊢
  rw [e _ (h2 i (by omega)), e _ (h2 k hk)]
  exact this
/-- who writes elsewhere leaves a tree as it is -/
theorem RT.cg_ {nb : Nat → Nat → Prop} {p : Nat} {B M T B' M' T' : Nat → Int32} : ∀ (f on : Nat) (ab : Int32) (W : Nat → Prop), TRS nb p f on ab W → (∀ y : Nat, W y → M' y = M y ∧ T' y = T y ∧ ∀ k : Nat, k < 7 → B' (7 * y + k) = B (7 * y + k)) → RT nb p B M T f on ab → RT nb p B' M' T' f on ab
  | 0, _, _, _, h, _, _ => h.elim
  | f + 1, on, ab, W, h, e, r => by
    obtain ⟨h1, h2, S, h3, -⟩ := h
    obtain ⟨⟨n, x, r1, r2, r3, r4⟩, r5, r6⟩ := r
    obtain ⟨e1, e2, e3⟩ := e on h2
    have et : ∀ o : Nat, chd nb p on ab o → T' o = T o := fun o ho => by
      obtain ⟨q1, -, q3, -⟩ := h3 o ho
      exact (e o (q3 o q1.me.2)).2.1
    refine ⟨⟨n, x, r1.cg et, e1.trans r2, fun k hk => (e3 k (by have := r1.1; omega)).trans (r3 k hk), ?_⟩, ?_, fun o ho => ?_⟩
    · rw [e2, r4]
      exact (mxl_cg _ _ _ fun y hy => by
        obtain ⟨k, hk, q⟩ := mem_crd.mp hy
        rw [← q]; exact et _ (r1.2.1 k hk)).symm
    · unfold TMV; rw [e2]; exact r5
    · obtain ⟨q1, -, q3, -⟩ := h3 o ho
      exact RT.cg_ f o (nI on) (S o) q1 (fun y hy => e y (q3 y hy)) (r6 o ho)
theorem RT.cg {nb : Nat → Nat → Prop} {p f on : Nat} {ab : Int32} {W : Nat → Prop} {B M T B' M' T' : Nat → Int32} (h : TRS nb p f on ab W) (e : ∀ y : Nat, W y → M' y = M y ∧ T' y = T y ∧ ∀ k : Nat, k < 7 → B' (7 * y + k) = B (7 * y + k)) (r : RT nb p B M T f on ab) : RT nb p B' M' T' f on ab := RT.cg_ f on ab W h e r
/-- the insertion: those that are faster move on by one place -/
theorem ins_ok {on j1 n : Nat} {R : LTF} {B M T : Nat → Int32} {x : Nat → Nat} (hn : n ≤ 6) (hx : ∀ k : Nat, k < n → x k < 7 ∧ TMV (R j1 (nI on) B M T).2.2 (2 ^ 20) (x k)) (hj : TMV (R j1 (nI on) B M T).2.2 (2 ^ 20) j1) : ∀ (m j : Nat) (v : Int32) (q : Nat) (D : Nat → Int32), v = nI q → q ≤ n → q < m → (∀ k : Nat, k < q → D (7 * on + k) = nI (x k)) → (∀ k : Nat, q ≤ k → k < n → D (7 * on + k + 1) = nI (x k) ∧ tvl (R j1 (nI on) B M T).2.2 (x k) < tvl (R j1 (nI on) B M T).2.2 j1) → ∃ (q' : Nat) (D' : Nat → Int32), L3_X12_layTree on R j1 B M T m j v D = (nI q', D') ∧ q' ≤ n ∧ (∀ k : Nat, k < q' → D' (7 * on + k) = nI (x k)) ∧ (∀ k : Nat, q' ≤ k → k < n → D' (7 * on + k + 1) = nI (x k) ∧ tvl (R j1 (nI on) B M T).2.2 (x k) < tvl (R j1 (nI on) B M T).2.2 j1) ∧ (0 < q' → tvl (R j1 (nI on) B M T).2.2 j1 ≤ tvl (R j1 (nI on) B M T).2.2 (x (q' - 1))) ∧ ∀ y : Nat, (y < 7 * on ∨ 7 * on + 7 ≤ y) → D' y = D y
  | 0, _, _, _, _, _, _, h, _, _ => absurd h (Nat.not_lt_zero _)
  | m + 1, j, v, q, D, hv, hq, hm, h1, h2 => by
    subst hv
    rw [L3_X12_layTree, tN_nI (by omega)]
    by_cases c1 : nI q ≤ 0
    · have q0 : q = 0 := Nat.eq_zero_of_le_zero ((nI_leI (a := q) (b := 0) (by omega) (by omega)).mp c1)
      subst q0
      rw [if_pos c1]
      exact ⟨0, D, rfl, Nat.zero_le _, h1, h2, fun z => absurd z (Nat.lt_irrefl _), fun _ _ => rfl⟩
    · have q0 : 0 < q := not_le0 (k := q) (by omega) c1
      rw [if_neg c1]
      have ed : D (7 * on + q - 1) = nI (x (q - 1)) := by
        rw [show 7 * on + q - 1 = 7 * on + (q - 1) by omega]; exact h1 (q - 1) (by omega)
      obtain ⟨x1, x2, x3⟩ := hx (q - 1) (by omega)
      obtain ⟨j2, j3⟩ := hj
      rw [ed, tN_nI (by omega)]
      by_cases c2 : (R j1 (nI on) B M T).2.2 j1 ≤ (R j1 (nI on) B M T).2.2 (x (q - 1))
      · rw [if_pos c2]
        refine ⟨q, D, rfl, hq, h1, h2, fun _ => ?_, fun _ _ => rfl⟩
        rw [j2, x2] at c2
        exact (nI_leI (a := tN ((R j1 (nI on) B M T).2.2 j1)) (b := tN ((R j1 (nI on) B M T).2.2 (x (q - 1)))) (by omega) (by omega)).mp c2
      · rw [if_neg c2]
        have c3 : tvl (R j1 (nI on) B M T).2.2 (x (q - 1)) < tvl (R j1 (nI on) B M T).2.2 j1 := Nat.lt_of_not_le fun z => c2 (by
          rw [j2, x2]
          exact (nI_leI (a := tN ((R j1 (nI on) B M T).2.2 j1)) (b := tN ((R j1 (nI on) B M T).2.2 (x (q - 1)))) (by omega) (by omega)).mpr z)
        have ev : nI q + (-1) = nI (q - 1) := by
          have := nI_d1 q0
          rw [show Int32.ofInt (-1) = (-1 : Int32) from by decide] at this
          exact this
        obtain ⟨q', D', g1, g2, g3, g4, g5, g6⟩ := ins_ok hn hx ⟨j2, j3⟩ m (j + 1) (nI q + (-1)) (q - 1) (upd D (7 * on + q) (nI (x (q - 1)))) ev (by omega) (by omega) (fun k hk => by rw [upd_ne (by omega)]; exact h1 k (by omega)) (fun k hk1 hk2 => by
          by_cases e : k = q - 1
          · subst e
            rw [show 7 * on + (q - 1) + 1 = 7 * on + q by omega, upd_eq]
            exact ⟨rfl, c3⟩
          · rw [upd_ne (by omega)]
            exact h2 k (by omega) hk2)
        exact ⟨q', D', g1, g2, g3, g4, g5, fun y hy => (g6 y hy).trans (upd_ne (by omega))⟩
theorem mxl_sn {T : Nat → Int32} {y : Nat} : ∀ (l : List Nat) (j : Nat) (a : Int32), mxl T j a (l ++ [y]) = mx2 (mxl T j a l) (nI (j + l.length + 1) + T y)
  | [], _, _ => rfl
  | x :: l, j, a => by
    show mxl T (j + 1) (mx2 a (nI (j + 1) + T x)) (l ++ [y]) = _
    rw [mxl_sn l (j + 1) _, show j + 1 + l.length + 1 = j + (x :: l).length + 1 by show j + 1 + l.length + 1 = j + (l.length + 1) + 1; omega]
    rfl
theorem crd_s {n : Nat} {x : Nat → Nat} : crd (n + 1) x = crd n x ++ [x n] := by
  unfold crd; rw [List.range_succ, List.map_append]; rfl
theorem RT.tm {nb : Nat → Nat → Prop} {p f o : Nat} {ab : Int32} {B M T : Nat → Int32} (h : RT nb p B M T f o ab) : TMV T (7 * f) o := by
  cases f with
  | zero => exact h.elim
  | succ f => exact h.2.1
/-- a row of seven, and others -/
theorem upd_row {D : Nat → Int32} {on q k y : Nat} {v : Int32} (hq : q < 7) (hk : k < 7) (hy : ¬ y = on) : upd D (7 * on + q) v (7 * y + k) = D (7 * y + k) := upd_ne (by omega)
section
variable {rA rB rO : Nat → Int32} {i lc pe : Nat}
abbrev NBF (rA rB rO : Nat → Int32) (i lc : Nat) : Nat → Nat → Prop := fun a b => ¬ F_X12_isBeside rA rB rO i lc a b = 0
def FRM (W : Nat → Prop) (B M T B' M' T' : Nat → Int32) : Prop := ∀ y : Nat, ¬ W y → M' y = M y ∧ T' y = T y ∧ ∀ k : Nat, k < 7 → B' (7 * y + k) = B (7 * y + k)
/-- what stands of one whose first k others are looked at -/
def LIV (nb : Nat → Nat → Prop) (p f on : Nat) (ab : Int32) (W : Nat → Prop) (B0 M0 T0 : Nat → Int32) (k : Nat) (s : (Nat → Int32) × (Nat → Int32) × (Nat → Int32)) : Prop :=
  (∃ (n : Nat) (x : Nat → Nat), (n ≤ k ∧ (on < k → n + 1 ≤ k)) ∧ (∀ m : Nat, m < n → chd nb p on ab (x m) ∧ x m < k) ∧ (∀ o : Nat, o < k → chd nb p on ab o → ∃ m : Nat, m < n ∧ x m = o) ∧ (∀ a m : Nat, a < m → m < n → bfr (tvl s.2.2) (x a) (x m)) ∧ s.2.1 on = nI n ∧ ∀ m : Nat, m < n → s.1 (7 * on + m) = nI (x m)) ∧ s.2.2 on = 0 ∧ (∀ o : Nat, o < k → chd nb p on ab o → RT nb p s.1 s.2.1 s.2.2 f o (nI on)) ∧ FRM W B0 M0 T0 s.1 s.2.1 s.2.2
theorem liv_step {f on k : Nat} {ab : Int32} {W : Nat → Prop} {R : LTF} {B0 M0 T0 : Nat → Int32} (hpe : pe ≤ 7) (hf : f ≤ 20) (hTS : TRS (NBF rA rB rO i lc) pe (f + 1) on ab W)
    (hR : ∀ (on : Nat) (ab : Int32) (W : Nat → Prop) (B M T : Nat → Int32), TRS (NBF rA rB rO i lc) pe f on ab W → RT (NBF rA rB rO i lc) pe (R on ab B M T).1 (R on ab B M T).2.1 (R on ab B M T).2.2 f on ab ∧ FRM W B M T (R on ab B M T).1 (R on ab B M T).2.1 (R on ab B M T).2.2)
    (hk : k < pe) {s : (Nat → Int32) × (Nat → Int32) × (Nat → Int32)} (h : LIV (NBF rA rB rO i lc) pe f on ab W B0 M0 T0 k s) : LIV (NBF rA rB rO i lc) pe f on ab W B0 M0 T0 (k + 1) (L1_X12_layTrees rA rB rO i lc on ab R k s.1 s.2.1 s.2.2) := by
  obtain ⟨s1, s2, s3⟩ := s
  obtain ⟨⟨n, x, h1, h2, h3, h4, h5, h6⟩, h7, h8, h9⟩ := h
  have h4 : ∀ a m : Nat, a < m → m < n → bfr (tvl s3) (x a) (x m) := h4
  have h5 : s2 on = nI n := h5
  have h6 : ∀ m : Nat, m < n → s1 (7 * on + m) = nI (x m) := h6
  have h7 : s3 on = 0 := h7
  have h8 : ∀ o : Nat, o < k → chd (NBF rA rB rO i lc) pe on ab o → RT (NBF rA rB rO i lc) pe s1 s2 s3 f o (nI on) := h8
  have h9 : FRM W B0 M0 T0 s1 s2 s3 := h9
  show LIV (NBF rA rB rO i lc) pe f on ab W B0 M0 T0 (k + 1) (L1_X12_layTrees rA rB rO i lc on ab R k s1 s2 s3)
  obtain ⟨t1, t2, S, t3, -⟩ := hTS
  have skip : ¬ chd (NBF rA rB rO i lc) pe on ab k → LIV (NBF rA rB rO i lc) pe f on ab W B0 M0 T0 (k + 1) (s1, s2, s3) := fun nc =>
    ⟨⟨n, x, by omega, fun m hm => ⟨(h2 m hm).1, by have := (h2 m hm).2; omega⟩, fun o ho hc => h3 o (by
      by_cases e : o = k
      · subst e; exact absurd hc nc
      · omega) hc, h4, h5, h6⟩, h7, fun o ho hc => h8 o (by
      by_cases e : o = k
      · subst e; exact absurd hc nc
      · omega) hc, h9⟩
  unfold L1_X12_layTrees
  by_cases c1 : nI k = ab
  · rw [if_pos c1]; exact skip fun q => q.2.1 c1
  rw [if_neg c1]
  by_cases c2 : nI k = nI on
  · rw [if_pos c2]
    exact skip fun q => q.2.2.1 ((nI_eq (a := k) (b := on) (by omega) (by omega)).mp c2)
  rw [if_neg c2]
  by_cases c3 : F_X12_isBeside rA rB rO i lc on k = 0
  · rw [if_pos c3]; exact skip fun q => q.2.2.2 c3
  rw [if_neg c3]
  have hne : ¬ k = on := fun q => c2 (congrArg nI q)
  have hck : chd (NBF rA rB rO i lc) pe on ab k := ⟨hk, c1, hne, c3⟩
  obtain ⟨u1, u2, u3, u4⟩ := t3 k hck
  obtain ⟨v1, v2⟩ := hR k (nI on) (S k) s1 s2 s3 u1
  have vo := v2 on u2
  have hn6 : n ≤ 6 := by omega
  have eM : (R k (nI on) s1 s2 s3).2.1 on = nI n := vo.1.trans h5
  -- whose times are as they were
  have hS : ∀ o : Nat, chd (NBF rA rB rO i lc) pe on ab o → ¬ o = k → ∀ y : Nat, S o y → ¬ S k y := fun o ho he y hy => (t3 o ho).2.2.2 k hck (fun q => he q.symm) y hy
  have hxk : ∀ m : Nat, m < n → ¬ x m = k := fun m hm => by have := (h2 m hm).2; omega
  have eT : ∀ m : Nat, m < n → (R k (nI on) s1 s2 s3).2.2 (x m) = s3 (x m) := fun m hm => (v2 (x m) (hS _ (h2 m hm).1 (hxk m hm) _ (t3 _ (h2 m hm).1).1.me.2)).2.1
  have h4' : ∀ a m : Nat, a < m → m < n → bfr (tvl (R k (nI on) s1 s2 s3).2.2) (x a) (x m) := fun a m ha hm => by
    have := h4 a m ha hm
    unfold bfr tvl at this ⊢
    rw [eT a (by omega), eT m hm]; exact this
  have tmx : ∀ m : Nat, m < n → x m < 7 ∧ TMV (R k (nI on) s1 s2 s3).2.2 (2 ^ 20) (x m) := fun m hm => by
    obtain ⟨z1, z2⟩ := (h8 (x m) (h2 m hm).2 (h2 m hm).1).tm
    refine ⟨by have := (h2 m hm).1.1; omega, ?_⟩
    unfold TMV; rw [eT m hm]
    exact ⟨z1, by omega⟩
  have tmk : TMV (R k (nI on) s1 s2 s3).2.2 (2 ^ 20) k := by
    obtain ⟨z1, z2⟩ := v1.tm
    exact ⟨z1, by omega⟩
  obtain ⟨q', D', g1, g2, g3, g4, g5, g6⟩ := ins_ok hn6 tmx tmk (n + 1) 0 (nI n) n (R k (nI on) s1 s2 s3).1 rfl (Nat.le_refl _) (by omega) (fun m hm => (vo.2.2 m (by omega)).trans (h6 m hm)) (fun m h1 h2 => by omega)
  rw [eM, tN_nI (by omega), g1]
  dsimp only
  rw [tN_nI (by omega)]
  have eM1 : nI n + 1 = nI (n + 1) := nI_add n 1
  rw [eM1]
  have hD : ∀ y m : Nat, m < 7 → ¬ y = on → upd D' (7 * on + q') (nI k) (7 * y + m) = (R k (nI on) s1 s2 s3).1 (7 * y + m) := fun y m hm hy => (upd_row (by omega) hm hy).trans (g6 _ (by omega))
  have agr : ∀ o : Nat, chd (NBF rA rB rO i lc) pe on ab o → ∀ y : Nat, S o y → ¬ y = on := fun o ho y hy e => (t3 o ho).2.1 (e ▸ hy)
  refine ⟨⟨n + 1, fun m => if m < q' then x m else if m = q' then k else x (m - 1), by omega, fun m hm => ?_, fun o ho hc => ?_, fun a m ha hm => ?_, upd_eq, fun m hm => ?_⟩, vo.2.1.trans h7, fun o ho hc => ?_, fun y hy => ?_⟩
  · dsimp only
    by_cases e1 : m < q'
    · rw [if_pos e1]; exact ⟨(h2 m (by omega)).1, by have := (h2 m (by omega)).2; omega⟩
    · rw [if_neg e1]
      by_cases e2 : m = q'
      · rw [if_pos e2]; exact ⟨hck, by omega⟩
      · rw [if_neg e2]; exact ⟨(h2 (m - 1) (by omega)).1, by have := (h2 (m - 1) (by omega)).2; omega⟩
  · by_cases e : o = k
    · exact ⟨q', by omega, by dsimp only; rw [if_neg (Nat.lt_irrefl _), if_pos rfl, e]⟩
    · obtain ⟨m, hm, em⟩ := h3 o (by omega) hc
      by_cases e1 : m < q'
      · exact ⟨m, by omega, by dsimp only; rw [if_pos e1]; exact em⟩
      · exact ⟨m + 1, by omega, by dsimp only; rw [if_neg (by omega), if_neg (by omega), Nat.add_sub_cancel]; exact em⟩
  · dsimp only
    by_cases a1 : a < q'
    · rw [if_pos a1]
      by_cases m1 : m < q'
      · rw [if_pos m1]; exact h4' a m ha (by omega)
      · rw [if_neg m1]
        by_cases m2 : m = q'
        · rw [if_pos m2]
          have z1 := g5 (by omega)
          have z2 : tvl (R k (nI on) s1 s2 s3).2.2 (x (q' - 1)) ≤ tvl (R k (nI on) s1 s2 s3).2.2 (x a) := by
            by_cases e : a = q' - 1
            · rw [e]; exact Nat.le_refl _
            · have := h4' a (q' - 1) (by omega) (by omega)
              unfold bfr at this; omega
          have z3 := (h2 a (by omega)).2
          unfold bfr; omega
        · rw [if_neg m2]; exact h4' a (m - 1) (by omega) (by omega)
    · rw [if_neg a1]
      by_cases a2 : a = q'
      · rw [if_pos a2, if_neg (by omega), if_neg (by omega)]
        exact Or.inl (g4 (m - 1) (by omega) (by omega)).2
      · rw [if_neg a2, if_neg (by omega), if_neg (by omega)]; exact h4' (a - 1) (m - 1) (by omega) (by omega)
  · dsimp only
    by_cases e1 : m < q'
    · rw [if_pos e1, upd_ne (by omega)]; exact g3 m e1
    · rw [if_neg e1]
      by_cases e2 : m = q'
      · rw [if_pos e2, e2, upd_eq]
      · rw [if_neg e2, upd_ne (by omega), show 7 * on + m = 7 * on + (m - 1) + 1 by omega]; exact (g4 (m - 1) (by omega) (by omega)).1
  · by_cases e : o = k
    · subst e
      exact RT.cg u1 (fun y hy => ⟨upd_ne (agr _ hck y hy), rfl, fun m hm => hD y m hm (agr _ hck y hy)⟩) v1
    · refine RT.cg (t3 o hc).1 (fun y hy => ?_) (h8 o (by omega) hc)
      obtain ⟨w1, w2, w3⟩ := v2 y (hS o hc e y hy)
      exact ⟨(upd_ne (agr _ hc y hy)).trans w1, w2, fun m hm => (hD y m hm (agr _ hc y hy)).trans (w3 m hm)⟩
  · have hyo : ¬ y = on := fun e => hy (e ▸ t2)
    obtain ⟨w1, w2, w3⟩ := v2 y fun z => hy (u3 y z)
    obtain ⟨r1, r2, r3⟩ := h9 y hy
    exact ⟨(upd_ne hyo).trans (w1.trans r1), w2.trans r2, fun m hm => (hD y m hm hyo).trans ((w3 m hm).trans (r3 m hm))⟩
end
section
variable {rA rB rO : Nat → Int32} {i lc pe : Nat}
theorem tl_ok {on n : Nat} {ab : Int32} {R : LTF} {gB gM gT i0 : Nat → Int32} {x : Nat → Nat} (hL : ∀ k : Nat, k < n → (L1_X12_layTree rA rB rO i lc on ab R gB (upd gM on (0 : Int32)) (upd gT on (0 : Int32)) pe).1 (7 * on + k) = nI (x k)) (hx : ∀ k : Nat, k < n → x k < 7 ∧ ¬ x k = on) (h0 : i0 on = 0) : ∀ k : Nat, k ≤ n → L2_X12_layTree rA rB rO gB gM gT i lc pe on ab R i0 k on = mxl i0 0 0 (crd k x) ∧ ∀ y : Nat, ¬ y = on → L2_X12_layTree rA rB rO gB gM gT i lc pe on ab R i0 k y = i0 y
  | 0, _ => ⟨h0, fun _ _ => rfl⟩
  | k + 1, hk => by
    obtain ⟨a, b⟩ := tl_ok hL hx h0 k (by omega)
    obtain ⟨x1, x2⟩ := hx k (by omega)
    have e : L2_X12_layTree rA rB rO gB gM gT i lc pe on ab R i0 (k + 1) = L2_X12_layTrees rA rB rO gB gM gT i lc pe on ab R k (L2_X12_layTree rA rB rO gB gM gT i lc pe on ab R i0 k) := rfl
    rw [e]
    unfold L2_X12_layTrees
    refine ⟨?_, fun y hy => (upd_ne hy).trans (b y hy)⟩
    rw [upd_eq, hL k (by omega), tN_nI (by omega), b _ x2, a, crd_s, mxl_sn, crd_len, Nat.zero_add]
theorem LT_ok (hpe : pe ≤ 7) : ∀ (f : Nat), f ≤ 20 → ∀ (on : Nat) (ab : Int32) (W : Nat → Prop) (B M T : Nat → Int32), TRS (NBF rA rB rO i lc) pe f on ab W → RT (NBF rA rB rO i lc) pe (LT rA rB rO i lc pe f on ab B M T).1 (LT rA rB rO i lc pe f on ab B M T).2.1 (LT rA rB rO i lc pe f on ab B M T).2.2 f on ab ∧ FRM W B M T (LT rA rB rO i lc pe f on ab B M T).1 (LT rA rB rO i lc pe f on ab B M T).2.1 (LT rA rB rO i lc pe f on ab B M T).2.2
  | 0, _, _, _, _, _, _, _, h => h.elim
  | f + 1, hf, on, ab, W, B, M, T, h => by
    have hR := LT_ok hpe f (by omega)
    have I : ∀ k : Nat, k ≤ pe → LIV (NBF rA rB rO i lc) pe f on ab W B M T k (L1_X12_layTree rA rB rO i lc on ab (LT rA rB rO i lc pe f) B (upd M on 0) (upd T on 0) k) := by
      intro k
      induction k with
      | zero =>
        intro _
        exact ⟨⟨0, fun _ => 0, by omega, fun m hm => absurd hm (Nat.not_lt_zero _), fun o ho => absurd ho (Nat.not_lt_zero _), fun a m _ hm => absurd hm (Nat.not_lt_zero _), upd_eq, fun m hm => absurd hm (Nat.not_lt_zero _)⟩, upd_eq, fun o ho => absurd ho (Nat.not_lt_zero _), fun y hy => ⟨upd_ne fun e => hy (e ▸ h.2.1), upd_ne fun e => hy (e ▸ h.2.1), fun _ _ => rfl⟩⟩
      | succ k ih => exact fun hk => liv_step hpe (by omega) h hR (by omega) (ih (by omega))
    have I := I pe (Nat.le_refl _)
    have eL : LT rA rB rO i lc pe (f + 1) on ab B M T = ((L1_X12_layTree rA rB rO i lc on ab (LT rA rB rO i lc pe f) B (upd M on 0) (upd T on 0) pe).1, (L1_X12_layTree rA rB rO i lc on ab (LT rA rB rO i lc pe f) B (upd M on 0) (upd T on 0) pe).2.1, L2_X12_layTree rA rB rO B M T i lc pe on ab (LT rA rB rO i lc pe f) (L1_X12_layTree rA rB rO i lc on ab (LT rA rB rO i lc pe f) B (upd M on 0) (upd T on 0) pe).2.2 (tN ((L1_X12_layTree rA rB rO i lc on ab (LT rA rB rO i lc pe f) B (upd M on 0) (upd T on 0) pe).2.1 on))) := rfl
    rw [eL]
    obtain ⟨⟨n, x, h1, h2, h3, h4, h5, h6⟩, h7, h8, h9⟩ := I
    obtain ⟨t1, t2, S, t3, -⟩ := h
    have hn : n ≤ 6 := by omega
    rw [h5, tN_nI (by omega)]
    obtain ⟨z1, z2⟩ := tl_ok (gT := T) h6 (fun k hk => ⟨by have := (h2 k hk).1.1; omega, (h2 k hk).1.2.2.1⟩) h7 n (Nat.le_refl _)
    generalize L2_X12_layTree rA rB rO B M T i lc pe on ab (LT rA rB rO i lc pe f) (L1_X12_layTree rA rB rO i lc on ab (LT rA rB rO i lc pe f) B (upd M on 0) (upd T on 0) pe).2.2 n = T' at z1 z2 ⊢
    generalize L1_X12_layTree rA rB rO i lc on ab (LT rA rB rO i lc pe f) B (upd M on 0) (upd T on 0) pe = s at h4 h5 h6 h7 h8 h9 z1 z2 ⊢
    dsimp only
    have agr : ∀ o : Nat, chd (NBF rA rB rO i lc) pe on ab o → ∀ y : Nat, S o y → ¬ y = on := fun o ho y hy e => (t3 o ho).2.1 (e ▸ hy)
    have et : ∀ o : Nat, chd (NBF rA rB rO i lc) pe on ab o → T' o = s.2.2 o := fun o ho => z2 o ho.2.2.1
    have em : ∀ y ∈ crd n x, T' y = s.2.2 y := fun y hy => by
      obtain ⟨k, hk, q⟩ := mem_crd.mp hy
      rw [← q]; exact et _ (h2 k hk).1
    have oc : OC (NBF rA rB rO i lc) pe on ab s.2.2 n x := ⟨hn, fun k hk => (h2 k hk).1, fun o ho => h3 o ho.1 ho, h4⟩
    refine ⟨⟨⟨n, x, oc.cg et, h5, h6, z1.trans (mxl_cg _ _ _ em).symm⟩, ?_, fun o ho => ?_⟩, fun y hy => ?_⟩
    · obtain ⟨m, m1, m2⟩ := mxl_in (T := s.2.2) (b := 7 * f) (by omega) (crd n x) 0 0 (fun y hy => by
        obtain ⟨k, hk, q⟩ := mem_crd.mp hy
        rw [← q]; exact (h8 _ (h2 k hk).1.1 (h2 k hk).1).tm) (by rw [crd_len]; omega) (Nat.zero_le _)
      have e1 : T' on = nI m := z1.trans m2
      unfold TMV
      rw [e1, tN_nI (by omega)]
      exact ⟨rfl, by omega⟩
    · exact RT.cg (t3 o ho).1 (fun y hy => ⟨rfl, z2 y (agr o ho y hy), fun _ _ => rfl⟩) (h8 o ho.1 ho)
    · have hyo : ¬ y = on := fun e => hy (e ▸ t2)
      obtain ⟨r1, r2, r3⟩ := h9 y hy
      exact ⟨r1, (z2 y hyo).trans r2, r3⟩
end

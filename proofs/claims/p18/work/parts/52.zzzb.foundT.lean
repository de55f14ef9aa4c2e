/-! the lowest rows by which a news is done in the least hours, as the class finds them -/
section
variable {p ho : Nat} {zd zt zm : Int32} {cA pw gd : Nat → Int32}
/-- a row leads to a place that is marked -/
def Qg (zd : Int32) (pw gd : Nat → Int32) (x hs : Int32) (s : Int32) : Prop := ¬ hasv (gd (tN (F_X7_placeOf pw (F_X7_stateAfter zd x s)))) hs = 0
theorem lgL_none {S O M C : Nat → Int32} {rc x hs : Int32} (hl : tN (F_X7_findRows p cA S O M C rc x ho zt).2.2.2.2 ≤ 128) (hF : FSn (Qg zd pw gd x hs) (F_X7_findRows p cA S O M C rc x ho zt).1 (F_X7_findRows p cA S O M C rc x ho zt).2.2.2.2) : ∀ m j : Nat, tN (F_X7_findRows p cA S O M C rc x ho zt).2.2.2.2 < m + j → j ≤ tN (F_X7_findRows p cA S O M C rc x ho zt).2.2.2.2 → (L1_X7_lowestGood p zd zt cA pw gd S O M C rc x ho hs m j).1 = -1
  | 0, j, h, h2 => absurd h (by omega)
  | m + 1, j, h, h2 => by
    rw [L1_X7_lowestGood]
    by_cases c1 : nI (tN (F_X7_findRows p cA S O M C rc x ho zt).2.2.2.2) ≤ nI j
    · rw [if_pos c1]
    · rw [if_neg c1]
      have hlt : j < tN (F_X7_findRows p cA S O M C rc x ho zt).2.2.2.2 := by
        have q : ¬ tN (F_X7_findRows p cA S O M C rc x ho zt).2.2.2.2 ≤ j := fun q => c1 ((nI_leI (by omega) (by omega)).mpr q)
        omega
      have c2 : hasv (gd (tN (F_X7_placeOf pw (F_X7_stateAfter zd x ((F_X7_findRows p cA S O M C rc x ho zt).1 j))))) hs = 0 := Classical.byContradiction fun q => hF j hlt q
      rw [if_pos c2]
      exact lgL_none hl hF m (j + 1) (by omega) (by omega)
theorem lgL_some {S O M C : Nat → Int32} {rc x hs : Int32} {i : Nat} (hl : tN (F_X7_findRows p cA S O M C rc x ho zt).2.2.2.2 ≤ 128) (hi : i < tN (F_X7_findRows p cA S O M C rc x ho zt).2.2.2.2) (hQ : Qg zd pw gd x hs ((F_X7_findRows p cA S O M C rc x ho zt).1 i)) (hF : ∀ j : Nat, j < i → ¬ Qg zd pw gd x hs ((F_X7_findRows p cA S O M C rc x ho zt).1 j)) : ∀ m j : Nat, tN (F_X7_findRows p cA S O M C rc x ho zt).2.2.2.2 < m + j → j ≤ i → (L1_X7_lowestGood p zd zt cA pw gd S O M C rc x ho hs m j).1 = nI i
  | 0, j, h, h2 => absurd h (by omega)
  | m + 1, j, h, h2 => by
    rw [L1_X7_lowestGood]
    have c1 : ¬ nI (tN (F_X7_findRows p cA S O M C rc x ho zt).2.2.2.2) ≤ nI j := fun q => by
      have := (nI_leI (a := tN (F_X7_findRows p cA S O M C rc x ho zt).2.2.2.2) (b := j) (by omega) (by omega)).mp q
      omega
    rw [if_neg c1]
    by_cases e : j = i
    · subst e
      rw [if_neg hQ]
    · have c2 : hasv (gd (tN (F_X7_placeOf pw (F_X7_stateAfter zd x ((F_X7_findRows p cA S O M C rc x ho zt).1 j))))) hs = 0 := Classical.byContradiction fun q => hF j (by omega) q
      rw [if_pos c2]
      exact lgL_some hl hi hQ hF m (j + 1) (by omega) (by omega)
theorem lg_first {S O M C : Nat → Int32} {rc x hs : Int32} (hp : p ≤ 7) (h : RI S M rc) : ((F_X7_lowestGood p zd zt cA pw gd S O M C rc x ho hs).1 = -1 ∧ ∀ r : Nat → Nat, RWp p (chX cA x ho zt) p r → ¬ MQX p (chX cA x ho zt) (Qg zd pw gd x hs) r) ∨ ∃ r : Nat → Nat, First p (chX cA x ho zt) (MQX p (chX cA x ho zt) (Qg zd pw gd x hs)) 0 (fun _ => 7) r ∧ ∃ i : Nat, i < 128 ∧ (F_X7_lowestGood p zd zt cA pw gd S O M C rc x ho hs).1 = nI i ∧ (F_X7_findRows p cA S O M C rc x ho zt).1 i = rset r p ∧ (F_X7_findRows p cA S O M C rc x ho zt).2.1 i = rval r p := by
  have hl := (RI_rows (cA := cA) (O := O) (C := C) (x := x) (ho := ho) (tg := zt) hp h).le
  rcases fR_first (cA := cA) (O := O) (fC := C) (x := x) (ho := ho) (tg := zt) (Q := Qg zd pw gd x hs) hp h with ⟨a1, a2⟩ | ⟨r, ⟨i, b1, b2, b3, b4, b5⟩, b6⟩
  · exact Or.inl ⟨lgL_none hl a1 _ 0 (by omega) (Nat.zero_le _), a2⟩
  · exact Or.inr ⟨r, b6, i, by omega, lgL_some hl b1 b2 b5 _ 0 (by omega) (Nat.zero_le _), b3, b4⟩
end
section
variable {p ho : Nat} {zd zt zm : Int32} {cA pw sa ct : Nat → Int32} {s0 : Int32}
/-- where the states of a level are -/
def MKt (p ho : Nat) (zd zt : Int32) (cA pw : Nat → Int32) (s0 : Int32) (ct : Nat → Int32) (t : Nat) : Prop := ∀ q : Nat, q < 2187 → (bt (ct q) t = true ↔ ∃ x : Int32, ZS p ho zd zt cA s0 t x ∧ tN (F_X7_placeOf pw x) = q)
theorem lh_marks (hpw : PWT pw) (hp : p ≤ 7) (hho : ho ≤ 24) (h0 : GS s0) : ∀ (m j : Nat) (ct now nx S O M C : Nat → Int32) (y12 y3 y5 : Int32) (p10 p11 : Nat), 25 - ho < m + j → j ≤ 25 - ho → RI S M y3 → NC y12 → (∀ i : Nat, i < tN y12 → ZS p ho zd zt cA s0 j (now i)) → (∀ x : Int32, ZS p ho zd zt cA s0 j x → ∃ i : Nat, i < tN y12 ∧ now i = x) → (∀ q t : Nat, q < 2187 → j < t → t < 32 → bt (ct q) t = false) → (∀ t : Nat, t ≤ j → MKt p ho zd zt cA pw s0 ct t) → ∀ n : Nat, n ≤ 25 → (L1_X7_leastHours p zd zt zm cA pw ho m j ct now nx S O M C y12 y3 y5 p10 p11).1 = nI n → ∀ t : Nat, t ≤ n → MKt p ho zd zt cA pw s0 (L1_X7_leastHours p zd zt zm cA pw ho m j ct now nx S O M C y12 y3 y5 p10 p11).2.2.2.1 t
  | 0, j, _, _, _, _, _, _, _, _, _, _, _, _, h, h2, _, _, _, _, _, _ => absurd h (by omega)
  | m + 1, j, ct, now, nx, S, O, M, C, y12, y3, y5, p10, p11, h, h2, h3, h4, h5, h6, h7, h8 => by
    rw [L1_X7_leastHours]
    intro n hn en t ht
    by_cases c1 : (24 : Int32) < nI (ho + j)
    · rw [if_pos c1] at en
      exact absurd (show (-1 : Int32) = nI n from en) (m1_ne (by omega))
    · rw [if_neg c1] at en ⊢
      have hj : ho + j ≤ 24 := by
        by_cases z : ho + j ≤ 24
        · exact z
        · exact absurd ((nI_ltI (a := 24) (b := ho + j) (by omega) (by omega)).mpr (by omega)) c1
      have ehs : ho + j - ho + 1 = j + 1 := by omega
      have hg : ∀ i : Nat, i < tN y12 → GS (now i) := fun i hi => zs_gs hp h0 j _ (h5 i hi)
      obtain ⟨g1, g2⟩ := l2_LS hpw hp (zd := zd) (zt := zt) (cA := cA) (ho := ho) (j1 := j) (now := now) (ct := ct) (nx := nx) (O := O) (C := C) (y5 := y5) (by omega) hg h3 (fun q hq => by rw [ehs]; exact h7 q (j + 1) hq (by omega) (by omega)) (tN y12) (Nat.le_refl _)
      obtain ⟨a, b⟩ := l2_ok (zd := zd) (zt := zt) (cA := cA) (pw := pw) (ho := ho) (j1 := j) (now := now) (ct := ct) (nx := nx) (O := O) (C := C) (y5 := y5) hp h3 NC_0 (tN y12)
      generalize hu : L2_X7_leastHours p zd zt cA pw ho j now ct nx S O M C 0 y3 y5 (tN y12) = u at g1 g2 a b en ⊢
      obtain ⟨k1, k2, k3, k4, k5⟩ := g1
      have hz : ∀ y : Int32, (∃ i : Nat, i < tN y12 ∧ ∃ K : Int32, SetOf p (chX cA (now i) (ho + j) zt) K ∧ y = F_X7_stateAfter zd (now i) K) ↔ ZS p ho zd zt cA s0 (j + 1) y := fun y => by
        constructor
        · rintro ⟨i, hi, K, hK, e⟩
          exact ⟨now i, h5 i hi, K, hK, e⟩
        · rintro ⟨x, hx, K, hK, e⟩
          obtain ⟨i, hi, q⟩ := h6 x hx
          exact ⟨i, hi, K, by rw [q]; exact hK, by rw [q]; exact e⟩
      have hmk : ∀ t : Nat, t ≤ j + 1 → MKt p ho zd zt cA pw s0 u.1 t := fun t ht q hq => by
        by_cases e : t = j + 1
        · rw [e, ← ehs, k5 q hq, ehs]
          constructor
          · rintro ⟨i, hi, e2⟩
            exact ⟨_, (hz _).mp (k2 i hi), e2⟩
          · rintro ⟨x, hx, e2⟩
            obtain ⟨i, hi, e3⟩ := k3 x ((hz x).mpr hx)
            exact ⟨i, hi, by rw [e3]; exact e2⟩
        · rw [g2 q t (by omega) (by omega)]
          exact h8 t (by omega) q hq
      by_cases c2 : F_X7_isDoneInOne zm u.2.2.2.2.2.2.1 u.2.1 = 0
      · rw [if_pos c2] at en ⊢
        exact lh_marks hpw hp hho h0 m (j + 1) _ _ _ _ _ _ _ _ _ _ _ _ (by omega) (by omega) a b (fun i hi => (hz _).mp (k2 i hi)) (fun x hx => k3 x ((hz x).mpr hx)) (fun q t hq ht1 ht2 => by
          rw [g2 q t ht2 (by omega)]
          exact h7 q t hq (by omega) ht2) hmk n hn en t ht
      · rw [if_neg c2] at en ⊢
        have e1 : nI (ho + j - ho + 1) = nI n := en
        have e2 := (nI_eq (a := ho + j - ho + 1) (b := n) (by omega) (by omega)).mp e1
        exact hmk t (by omega)
theorem be_LSV {pw nx : Nat → Int32} (hpw : PWT pw) {x y : Int32} (h0 : GS (F_X7_state x y)) : LSV pw (F_X7_begin pw nx x y).1 (F_X7_begin pw nx x y).2.1 (F_X7_begin pw nx x y).2.2 0 (fun z => z = F_X7_state x y) := by
  unfold F_X7_begin
  dsimp only
  have a := ar_LS (hs := 0) hpw (by omega) (fun z hz => hz.elim) h0 (LS_none (pw := pw) (hs := 0) (ct := fun _ => 0) (nx := nx) (fun q _ => b_0 _))
  rw [show nI 0 = (0 : Int32) from rfl] at a
  exact LSV.iff a fun z => ⟨fun a => a.elim (fun b => b.elim) id, Or.inr⟩
theorem be_bits {pw nx : Nat → Int32} {x y : Int32} (q : Nat) {t : Nat} (ht : t < 32) (hne : ¬ t = 0) : bt ((F_X7_begin pw nx x y).1 q) t = false := by
  unfold F_X7_begin
  dsimp only
  have a := ar_bits (zc := 0) (pw := pw) (ct := fun _ => 0) (nx := nx) (x := F_X7_state x y) (hs := 0) (by omega) (q := q) ht hne
  rw [show nI 0 = (0 : Int32) from rfl] at a
  rw [a]
  exact b_0 _
theorem lh_mk (hpw : PWT pw) (hp : p ≤ 7) (hho : ho ≤ 24) {x y : Int32} {P Q : Nat} {now nx S O M C : Nat → Int32} {rc rp : Int32} (hx : s7 x) (hy : s7 y) (hxy : x &&& y = 0) (hI : RI S M rc) {n : Nat} (h1 : 1 ≤ n) (hn : n ≤ 25) (en : (F_X7_leastHours P Q p zd zt zm cA pw now nx S O M C rc rp x y ho).1 = nI n) : ∀ t : Nat, t ≤ n → MKt p ho zd zt cA pw (F_X7_state x y) (F_X7_leastHours P Q p zd zt zm cA pw now nx S O M C rc rp x y ho).2.2.2.1 t := by
  have h0 : GS (F_X7_state x y) := ⟨x, y, hx, hy, hxy, rfl⟩
  unfold F_X7_leastHours at en ⊢
  by_cases c1 : F_X7_isDone zm x = 0
  · rw [if_pos c1] at en ⊢
    by_cases c2 : F_X7_isDone zm (F_X7_comeToBy p cA x ho 24) = 0
    · rw [if_pos c2] at en
      exact absurd (show (-1 : Int32) = nI n from en) (m1_ne (by omega))
    · rw [if_neg c2] at en ⊢
      have hb := be_LSV (nx := nx) hpw h0
      obtain ⟨k1, k2, k3, -, k5⟩ := hb
      refine lh_marks hpw hp hho h0 _ 0 _ _ _ _ _ _ _ _ _ _ _ _ (by omega) (Nat.zero_le _) hI k1 k2 k3 (fun q t hq ht1 ht2 => ?_) (fun t ht q hq => ?_) n hn en
      · exact be_bits q ht2 (by omega)
      · obtain rfl : t = 0 := by omega
        rw [k5 q hq]
        constructor
        · rintro ⟨i, hi, e⟩
          exact ⟨_, k2 i hi, e⟩
        · rintro ⟨z, hz, e⟩
          obtain ⟨i, hi, e2⟩ := k3 z hz
          exact ⟨i, hi, by rw [e2]; exact e⟩
  · rw [if_neg c1] at en
    have e1 : (0 : Int32) = nI n := en
    have e2 := (nI_eq (a := 0) (b := n) (by omega) (by omega)).mp e1
    omega
theorem sa_at (hpw : PWT pw) (hsa : SAT sa) {x : Int32} (hx : GS x) : sa (tN (F_X7_placeOf pw x)) = x := by
  obtain ⟨k, o, h1, h2, h3, rfl⟩ := hx
  obtain ⟨q1, q2⟩ := pl_num hpw h1 h2 h3
  have a1 := s7_num h1
  have a2 := s7_num h2
  rw [q1, tN_nI (by omega), hsa (tN k) (tN o) a1.2 a2.2 (and_nat h1 h2 h3), ← a1.1, ← a2.1]
  rfl
/-- places from which it is done in the hours that are left -/
def GDx (p ho : Nat) (zd zt zm : Int32) (cA pw : Nat → Int32) (s0 : Int32) (N t q : Nat) : Prop := ∃ x : Int32, ZS p ho zd zt cA s0 t x ∧ tN (F_X7_placeOf pw x) = q ∧ DX p zd zt zm cA (N - t) (ho + t) x
theorem gdx_at (hpw : PWT pw) (hp : p ≤ 7) (h0 : GS s0) {N t : Nat} {x : Int32} (hx : ZS p ho zd zt cA s0 t x) : GDx p ho zd zt zm cA pw s0 N t (tN (F_X7_placeOf pw x)) ↔ DX p zd zt zm cA (N - t) (ho + t) x := by
  constructor
  · rintro ⟨y, hy, e, h⟩
    rw [← pl_inj hpw (zs_gs hp h0 t y hy) (zs_gs hp h0 t x hx) e]
    exact h
  · intro h
    exact ⟨x, hx, rfl, h⟩
theorem mg1_bit {N : Nat} (hN : N < 32) : ∀ (k q t : Nat), q < k → t < 32 → (bt (L1_X7_markGood zm sa ct N cA k q) t = true ↔ t = N ∧ bt (ct q) N = true ∧ ¬ F_X7_isDone zm (F_X7_knownIn (sa q)) = 0)
  | 0, q, t, h, _ => absurd h (Nat.not_lt_zero _)
  | k + 1, q, t, h, ht => by
    show bt (L1_X7_markGoods zm sa ct N k (L1_X7_markGood zm sa ct N cA k) q) t = true ↔ _
    unfold L1_X7_markGoods
    by_cases e : q = k
    · subst e
      by_cases c1 : hasv (ct q) (nI N) = 0
      · rw [if_pos c1, upd_eq, b_0, (hvb_0 hN).mp c1]
        exact ⟨fun z => absurd z (by decide), fun z => absurd z.2.1 (by decide)⟩
      · rw [if_neg c1]
        have c1' := (bt_hasv hN).mp c1
        by_cases c2 : F_X7_isDone zm (F_X7_knownIn (sa q)) = 0
        · rw [if_pos c2, upd_eq, b_0]
          exact ⟨fun z => absurd z (by decide), fun z => absurd c2 z.2.2⟩
        · rw [if_neg c2, upd_eq, b_sh1 hN ht, decide_eq_true_eq]
          exact ⟨fun z => ⟨by omega, c1', c2⟩, fun z => by omega⟩
    · have ih := mg1_bit hN k q t (by omega) ht
      by_cases c1 : hasv (ct k) (nI N) = 0
      · rw [if_pos c1, upd_ne e]; exact ih
      · rw [if_neg c1]
        by_cases c2 : F_X7_isDone zm (F_X7_knownIn (sa k)) = 0
        · rw [if_pos c2, upd_ne e]; exact ih
        · rw [if_neg c2, upd_ne e]; exact ih
/-- one level, place by place -/
theorem mg3_marks (hpw : PWT pw) (hp : p ≤ 7) (h0 : GS s0) (hsa : SAT sa) {N j2 : Nat} (hN : 1 ≤ N ∧ N ≤ 25) (hj : j2 + 1 < N) (hct : MKt p ho zd zt cA pw s0 ct (N - 1 - j2)) {gd S O M C : Nat → Int32} {y3 y5 : Int32} (hI : RI S M y3) (hg : ∀ q : Nat, q < 2187 → (bt (gd q) (N - 1 - j2 + 1) = true ↔ GDx p ho zd zt zm cA pw s0 N (N - 1 - j2 + 1) q)) (hz : ∀ q : Nat, q < 2187 → bt (gd q) (N - 1 - j2) = false) : ∀ k : Nat, k ≤ 2187 → (∀ q t : Nat, t < 32 → ¬ t = N - 1 - j2 → bt ((L3_X7_markGood p zd zt cA pw sa ct ho N j2 gd S O M C y3 y5 k).1 q) t = bt (gd q) t) ∧ ∀ q : Nat, q < 2187 → (bt ((L3_X7_markGood p zd zt cA pw sa ct ho N j2 gd S O M C y3 y5 k).1 q) (N - 1 - j2) = true ↔ q < k ∧ GDx p ho zd zt zm cA pw s0 N (N - 1 - j2) q)
  | 0, _ => ⟨fun _ _ _ _ => rfl, fun q hq => by
    show bt (gd q) _ = true ↔ _
    rw [hz q hq]
    exact ⟨fun z => absurd z (by decide), fun z => absurd z.1 (Nat.not_lt_zero _)⟩⟩
  | k + 1, hk => by
    obtain ⟨i1, i2⟩ := mg3_marks hpw hp h0 hsa hN hj hct (O := O) (C := C) (y5 := y5) hI hg hz k (by omega)
    have hri := mg3 hp (zd := zd) (zt := zt) (cA := cA) (pw := pw) (sa := sa) (ct := ct) (ho := ho) (hk := N) (j2 := j2) (gd := gd) (O := O) (C := C) (y5 := y5) hI k
    have e : L3_X7_markGood p zd zt cA pw sa ct ho N j2 gd S O M C y3 y5 (k + 1) = L3_X7_markGoods p zd zt cA pw sa ct ho N j2 k (L3_X7_markGood p zd zt cA pw sa ct ho N j2 gd S O M C y3 y5 k).1 (L3_X7_markGood p zd zt cA pw sa ct ho N j2 gd S O M C y3 y5 k).2.1 (L3_X7_markGood p zd zt cA pw sa ct ho N j2 gd S O M C y3 y5 k).2.2.1 (L3_X7_markGood p zd zt cA pw sa ct ho N j2 gd S O M C y3 y5 k).2.2.2.1 (L3_X7_markGood p zd zt cA pw sa ct ho N j2 gd S O M C y3 y5 k).2.2.2.2.1 (L3_X7_markGood p zd zt cA pw sa ct ho N j2 gd S O M C y3 y5 k).2.2.2.2.2.1 (L3_X7_markGood p zd zt cA pw sa ct ho N j2 gd S O M C y3 y5 k).2.2.2.2.2.2 := rfl
    rw [e]
    generalize L3_X7_markGood p zd zt cA pw sa ct ho N j2 gd S O M C y3 y5 k = s at i1 i2 hri ⊢
    have skip : ¬ GDx p ho zd zt zm cA pw s0 N (N - 1 - j2) k → ∀ q : Nat, q < 2187 → (bt (s.1 q) (N - 1 - j2) = true ↔ q < k + 1 ∧ GDx p ho zd zt zm cA pw s0 N (N - 1 - j2) q) := fun hno q hq => by
      rw [i2 q hq]
      constructor
      · rintro ⟨z1, z2⟩
        exact ⟨by omega, z2⟩
      · rintro ⟨z1, z2⟩
        by_cases y : q = k
        · rw [y] at z2; exact absurd z2 hno
        · exact ⟨by omega, z2⟩
    unfold L3_X7_markGoods
    by_cases c1 : hasv (ct k) (nI (N - 1 - j2)) = 0
    · rw [if_pos c1]
      refine ⟨i1, skip fun ⟨x, hx, ex, _⟩ => ?_⟩
      have c3 := (hvb_0 (show N - 1 - j2 < 32 by omega)).mp c1
      rw [(hct k (by omega)).mpr ⟨x, hx, ex⟩] at c3
      cases c3
    · rw [if_neg c1]
      obtain ⟨x, hx, ex⟩ := (hct k (by omega)).mp ((bt_hasv (show N - 1 - j2 < 32 by omega)).mp c1)
      have hgx := zs_gs hp h0 _ x hx
      have esa : sa k = x := by rw [← ex]; exact sa_at hpw hsa hgx
      have hlv : N - (N - 1 - j2) = N - (N - 1 - j2 + 1) + 1 := by omega
      have hiff : GDx p ho zd zt zm cA pw s0 N (N - 1 - j2) k ↔ ∃ r : Nat → Nat, RWp p (chX cA x (ho + (N - 1 - j2)) zt) p r ∧ MQX p (chX cA x (ho + (N - 1 - j2)) zt) (Qg zd pw s.1 x (nI (N - 1 - j2 + 1))) r := by
        rw [← ex, gdx_at hpw hp h0 hx, hlv]
        have hq : ∀ r : Nat → Nat, RWp p (chX cA x (ho + (N - 1 - j2)) zt) p r → rmax p (chX cA x (ho + (N - 1 - j2)) zt) r → (Qg zd pw s.1 x (nI (N - 1 - j2 + 1)) (rset r p) ↔ DX p zd zt zm cA (N - (N - 1 - j2 + 1)) (ho + (N - 1 - j2) + 1) (F_X7_stateAfter zd x (rset r p))) := fun r h1 h2 => by
          have hS : SetOf p (chX cA x (ho + (N - 1 - j2)) zt) (rset r p) := ⟨r, h1, h2, rfl⟩
          have hy : ZS p ho zd zt cA s0 (N - 1 - j2 + 1) (F_X7_stateAfter zd x (rset r p)) := ⟨x, hx, _, hS, rfl⟩
          unfold Qg
          rw [bt_hasv (show N - 1 - j2 + 1 < 32 by omega), i1 _ _ (by omega) (by omega), hg _ (pl_lt hpw (zs_gs hp h0 _ _ hy)), gdx_at hpw hp h0 hy]
          rw [show ho + (N - 1 - j2 + 1) = ho + (N - 1 - j2) + 1 by omega]
        constructor
        · rintro ⟨K, ⟨r, h1, h2, rfl⟩, h3⟩
          exact ⟨r, h1, h2, (hq r h1 h2).mpr h3⟩
        · rintro ⟨r, h1, h2, h3⟩
          exact ⟨rset r p, ⟨r, h1, h2, rfl⟩, (hq r h1 h2).mp h3⟩
      have hl := lg_first (p := p) (zd := zd) (zt := zt) (cA := cA) (pw := pw) (gd := s.1) (ho := ho + (N - 1 - j2)) (O := s.2.2.1) (C := s.2.2.2.2.1) (x := x) (hs := nI (N - 1 - j2 + 1)) hp hri
      rw [esa]
      by_cases c2 : (F_X7_lowestGood p zd zt cA pw s.1 s.2.1 s.2.2.1 s.2.2.2.1 s.2.2.2.2.1 s.2.2.2.2.2.1 x (ho + (N - 1 - j2)) (nI (N - 1 - j2 + 1))).1 = -1
      · rw [if_pos c2]
        refine ⟨i1, skip fun hG => ?_⟩
        obtain ⟨r, h1, h2⟩ := hiff.mp hG
        rcases hl with ⟨-, a2⟩ | ⟨r2, -, i, hi, a3, -, -⟩
        · exact a2 r h1 h2
        · rw [a3] at c2
          exact m1_ne (show i < 2 ^ 31 by omega) c2.symm
      · rw [if_neg c2]
        have hG : GDx p ho zd zt zm cA pw s0 N (N - 1 - j2) k := by
          rcases hl with ⟨a1, -⟩ | ⟨r2, a2, -⟩
          · exact absurd a1 c2
          · exact hiff.mpr ⟨r2, a2.1, a2.2.2.1⟩
        refine ⟨fun q t ht hne => ?_, fun q hq => ?_⟩
        · show bt (upd s.1 k _ q) t = _
          rw [b_upd (show N - 1 - j2 < 32 by omega) ht, decide_eq_false hne, Bool.and_false, Bool.or_false]
          exact i1 q t ht hne
        · show bt (upd s.1 k _ q) (N - 1 - j2) = true ↔ _
          rw [b_upd (show N - 1 - j2 < 32 by omega) (show N - 1 - j2 < 32 by omega), decide_eq_true (rfl : N - 1 - j2 = N - 1 - j2), Bool.and_true, Bool.or_eq_true, i2 q hq, decide_eq_true_eq]
          constructor
          · rintro (⟨z1, z2⟩ | z)
            · exact ⟨by omega, z2⟩
            · rw [z]; exact ⟨by omega, hG⟩
          · rintro ⟨z1, z2⟩
            by_cases y : q = k
            · exact Or.inr y
            · exact Or.inl ⟨by omega, z2⟩
theorem mg2_marks (hpw : PWT pw) (hp : p ≤ 7) (h0 : GS s0) (hsa : SAT sa) {N : Nat} (hN : 1 ≤ N ∧ N ≤ 25) (hct : ∀ t : Nat, t ≤ N → MKt p ho zd zt cA pw s0 ct t) {gd S O M C : Nat → Int32} {y3 y5 : Int32} (hI : RI S M y3) (hg : ∀ q : Nat, q < 2187 → (bt (gd q) N = true ↔ GDx p ho zd zt zm cA pw s0 N N q)) (hz : ∀ q t : Nat, q < 2187 → t < N → bt (gd q) t = false) : ∀ k : Nat, k + 1 ≤ N → (∀ q t : Nat, q < 2187 → N - k ≤ t → t ≤ N → (bt ((L2_X7_markGood p zd zt cA pw sa ct ho N gd S O M C y3 y5 k).1 q) t = true ↔ GDx p ho zd zt zm cA pw s0 N t q)) ∧ ∀ q t : Nat, q < 2187 → t < N - k → bt ((L2_X7_markGood p zd zt cA pw sa ct ho N gd S O M C y3 y5 k).1 q) t = false
  | 0, _ => ⟨fun q t hq h1 h2 => by
    have e : t = N := by omega
    rw [e]; exact hg q hq, fun q t hq ht => hz q t hq (by omega)⟩
  | k + 1, hk => by
    obtain ⟨i1, i2⟩ := mg2_marks hpw hp h0 hsa hN hct (O := O) (C := C) (y5 := y5) hI hg hz k (by omega)
    have hri := mg2 hp (zd := zd) (zt := zt) (cA := cA) (pw := pw) (sa := sa) (ct := ct) (ho := ho) (hk := N) (gd := gd) (O := O) (C := C) (y5 := y5) hI k
    have e : L2_X7_markGood p zd zt cA pw sa ct ho N gd S O M C y3 y5 (k + 1) = L2_X7_markGoods p zd zt cA pw sa ct ho N k (L2_X7_markGood p zd zt cA pw sa ct ho N gd S O M C y3 y5 k).1 (L2_X7_markGood p zd zt cA pw sa ct ho N gd S O M C y3 y5 k).2.1 (L2_X7_markGood p zd zt cA pw sa ct ho N gd S O M C y3 y5 k).2.2.1 (L2_X7_markGood p zd zt cA pw sa ct ho N gd S O M C y3 y5 k).2.2.2.1 (L2_X7_markGood p zd zt cA pw sa ct ho N gd S O M C y3 y5 k).2.2.2.2.1 (L2_X7_markGood p zd zt cA pw sa ct ho N gd S O M C y3 y5 k).2.2.2.2.2.1 (L2_X7_markGood p zd zt cA pw sa ct ho N gd S O M C y3 y5 k).2.2.2.2.2.2 := rfl
    rw [e]
    generalize L2_X7_markGood p zd zt cA pw sa ct ho N gd S O M C y3 y5 k = s at i1 i2 hri ⊢
    unfold L2_X7_markGoods
    have eN : N - (k + 1) = N - 1 - k := by omega
    have g := mg3_marks hpw hp h0 hsa hN (show k + 1 < N by omega) (hct (N - 1 - k) (by omega)) (O := s.2.2.1) (C := s.2.2.2.2.1) (y5 := s.2.2.2.2.2.2) (zm := zm) hri (fun q hq => i1 q (N - 1 - k + 1) hq (by omega) (by omega)) (fun q hq => i2 q (N - 1 - k) hq (by omega)) 2187 (Nat.le_refl _)
    try dsimp only
    refine ⟨fun q t hq h1 h2 => ?_, fun q t hq ht => ?_⟩
    · by_cases y : t = N - 1 - k
      · rw [y, g.2 q hq]
        exact ⟨fun z => z.2, fun z => ⟨hq, z⟩⟩
      · rw [g.1 q t (by omega) y]
        exact i1 q t hq (by omega) h2
    · rw [g.1 q t (by omega) (by omega)]
      exact i2 q t hq (by omega)
theorem mg_marks (hpw : PWT pw) (hp : p ≤ 7) (h0 : GS s0) (hsa : SAT sa) {N : Nat} (hN : 1 ≤ N ∧ N ≤ 25) (hct : ∀ t : Nat, t ≤ N → MKt p ho zd zt cA pw s0 ct t) {gd S O M C : Nat → Int32} {rc rp : Int32} (hI : RI S M rc) : ∀ q t : Nat, q < 2187 → 1 ≤ t → t ≤ N → (bt ((F_X7_markGood p zd zt zm cA pw sa ct gd S O M C rc rp ho N).1 q) t = true ↔ GDx p ho zd zt zm cA pw s0 N t q) := fun q t hq h1 h2 => by
  have b1 := fun q t => mg1_bit (zm := zm) (sa := sa) (ct := ct) (cA := gd) (show N < 32 by omega) 2187 q t
  refine (mg2_marks hpw hp h0 hsa hN hct (gd := L1_X7_markGood zm sa ct N gd 2187) (O := O) (C := C) (y5 := rp) hI (fun q hq => ?_) (fun q t hq ht => ?_) (N - 1) (by omega)).1 q t hq (by omega) h2
  · rw [b1 q N hq (by omega)]
    constructor
    · rintro ⟨-, z1, z2⟩
      obtain ⟨x, hx, ex⟩ := (hct N (Nat.le_refl _) q hq).mp z1
      refine ⟨x, hx, ex, ?_⟩
      rw [← ex, sa_at hpw hsa (zs_gs hp h0 N x hx)] at z2
      rw [Nat.sub_self]
      exact z2
    · rintro ⟨x, hx, ex, z⟩
      refine ⟨rfl, (hct N (Nat.le_refl _) q hq).mpr ⟨x, hx, ex⟩, ?_⟩
      rw [← ex, sa_at hpw hsa (zs_gs hp h0 N x hx)]
      rw [Nat.sub_self] at z
      exact z
  · cases z : bt (L1_X7_markGood zm sa ct N gd 2187 q) t with
    | false => rfl
    | true =>
      have := ((b1 q t hq (by omega)).mp z).1
      omega
/-- the rows that are taken, hour by hour: where one comes to, the last row -/
def PTH (p ho : Nat) (zd zt zm : Int32) (cA : Nat → Int32) (s0 : Int32) (N : Nat) : Nat → Int32 → (Nat → Nat) → Prop
  | 0 => fun y r => First p (chX cA s0 ho zt) (MQX p (chX cA s0 ho zt) (fun s => DX p zd zt zm cA (N - 1) (ho + 1) (F_X7_stateAfter zd s0 s))) 0 (fun _ => 7) r ∧ y = F_X7_stateAfter zd s0 (rset r p)
  | j + 1 => fun y r => ∃ x r0, PTH p ho zd zt zm cA s0 N j x r0 ∧ First p (chX cA x (ho + (j + 1)) zt) (MQX p (chX cA x (ho + (j + 1)) zt) (fun s => DX p zd zt zm cA (N - (j + 1) - 1) (ho + (j + 1) + 1) (F_X7_stateAfter zd x s))) 0 (fun _ => 7) r ∧ y = F_X7_stateAfter zd x (rset r p)
theorem pth_uniq {N : Nat} : ∀ (j : Nat) (y y2 : Int32) (r r2 : Nat → Nat), PTH p ho zd zt zm cA s0 N j y r → PTH p ho zd zt zm cA s0 N j y2 r2 → y = y2 ∧ ∀ a : Nat, a < p → r a = r2 a
  | 0, y, y2, r, r2, ⟨h1, h2⟩, ⟨k1, k2⟩ => by
    have e := h1.uniq k1
    exact ⟨by rw [h2, k2, rset_cong p fun a ha => (e a ha)], e⟩
  | j + 1, y, y2, r, r2, ⟨x, r0, a1, h1, h2⟩, ⟨x', r0', b1, k1, k2⟩ => by
    obtain ⟨e0, -⟩ := pth_uniq j x x' r0 r0' a1 b1
    subst e0
    have e := h1.uniq k1
    exact ⟨by rw [h2, k2, rset_cong p fun a ha => (e a ha)], e⟩
theorem mq_iff {C : Nat → Int32} {Q Q2 : Int32 → Prop} (h : ∀ r : Nat → Nat, RWp p C p r → rmax p C r → (Q (rset r p) ↔ Q2 (rset r p))) {r0 r : Nat → Nat} (hf : First p C (MQX p C Q) 0 r0 r) : First p C (MQX p C Q2) 0 r0 r := by
  obtain ⟨a1, a2, a3, a4⟩ := hf
  exact ⟨a1, a2, ⟨a3.1, (h r a1 a3.1).mp a3.2⟩, fun a h1 h2 r2 f1 f2 f3 f4 => a4 a h1 h2 r2 f1 f2 f3 ⟨f4.1, (h r2 f1 f4.1).mpr f4.2⟩⟩
end

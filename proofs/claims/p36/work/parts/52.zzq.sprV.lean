/-! the least hours, as the class finds them -/
/-- the least number up to b with a property; -1 where there is none -/
def LSA (P : Nat → Prop) (b : Nat) (v : Int32) : Prop := (v = -1 ∧ ∀ n : Nat, n ≤ b → ¬ P n) ∨ ∃ n : Nat, n ≤ b ∧ v = nI n ∧ P n ∧ ∀ k : Nat, k < n → ¬ P k
theorem LSA.uniq {P : Nat → Prop} {b : Nat} {v v2 : Int32} (h : LSA P b v) (h2 : LSA P b v2) : v = v2 := by
  rcases h with ⟨a1, a2⟩ | ⟨n, a1, a2, a3, a4⟩
  · rcases h2 with ⟨b1, _⟩ | ⟨m, b1, _, b3, _⟩
    · rw [a1, b1]
    · exact absurd b3 (a2 m b1)
  · rcases h2 with ⟨_, b2⟩ | ⟨m, _, b2, b3, b4⟩
    · exact absurd a3 (b2 n a1)
    · have e : n = m := by
        rcases Nat.lt_trichotomy n m with z | z | z
        · exact absurd a3 (b4 n z)
        · exact z
        · exact absurd b3 (a4 m z)
      rw [a2, b2, e]
theorem LSA.iff {P P2 : Nat → Prop} {b : Nat} {v : Int32} (h : LSA P b v) (e : ∀ n : Nat, n ≤ b → (P n ↔ P2 n)) : LSA P2 b v := by
  rcases h with ⟨a1, a2⟩ | ⟨n, a1, a2, a3, a4⟩
  · exact Or.inl ⟨a1, fun n hn q => a2 n hn ((e n hn).mpr q)⟩
  · exact Or.inr ⟨n, a1, a2, (e n a1).mp a3, fun k hk q => a4 k hk ((e k (by omega)).mpr q)⟩
noncomputable def lsV (P : Nat → Prop) (b : Nat) : Int32 := Classical.epsilon (LSA P b)
theorem lsV_eq {P : Nat → Prop} {b : Nat} {v : Int32} (h : LSA P b v) : v = lsV P b := h.uniq (Classical.epsilon_spec ⟨v, h⟩)
section
variable (p ho : Nat) (zd zt : Int32) (cA : Nat → Int32) (s0 : Int32)
def ZS : Nat → Int32 → Prop
  | 0 => fun y => y = s0
  | j + 1 => fun y => ∃ x : Int32, ZS j x ∧ ∃ C : Int32, SetOf p (chX cA x (ho + j) zt) C ∧ y = F_X7_stateAfter zd x C
def ZP (zm : Int32) (n : Nat) : Prop := ∃ y : Int32, ZS p ho zd zt cA s0 n y ∧ ¬ F_X7_isDone zm (F_X7_knownIn y) = 0
end
section
variable {p ho : Nat} {zd zt zm : Int32} {cA pw : Nat → Int32} {s0 : Int32}
theorem zs_gs (hp : p ≤ 7) (h0 : GS s0) : ∀ (j : Nat) (y : Int32), ZS p ho zd zt cA s0 j y → GS y
  | 0, y, h => by
    have e : y = s0 := h
    rw [e]; exact h0
  | j + 1, y, h => by
    obtain ⟨x, hx, C, hC, rfl⟩ := h
    exact gs_after (zs_gs hp h0 j x hx) (hC.s7 hp)
theorem and_0l (x : Int32) : (0 : Int32) &&& x = 0 := b_ext fun i _ => by rw [b_and, b_0, Bool.false_and]
theorem LS_none {ct nx : Nat → Int32} {hs : Nat} (h : ∀ q : Nat, q < 2187 → bt (ct q) hs = false) : LSV pw ct nx 0 hs (fun _ => False) := by
  have e : tN (0 : Int32) = 0 := by decide
  refine ⟨NC_0, fun i hi => ?_, fun x hx => hx.elim, fun i j hi => ?_, fun q hq => ⟨fun z => ?_, fun ⟨i, hi, _⟩ => ?_⟩⟩
  · rw [e] at hi; exact absurd hi (Nat.not_lt_zero _)
  · rw [e] at hi; exact absurd hi (Nat.not_lt_zero _)
  · rw [h q hq] at z; cases z
  · rw [e] at hi; exact absurd hi (Nat.not_lt_zero _)
theorem l2_LS (hpw : PWT pw) (hp : p ≤ 7) {j1 N : Nat} {now ct nx S O M C : Nat → Int32} {y3 y5 : Int32} (h32 : ho + j1 - ho + 1 < 32) (hg : ∀ i : Nat, i < N → GS (now i)) (hI : RI S M y3) (hf : ∀ q : Nat, q < 2187 → bt (ct q) (ho + j1 - ho + 1) = false) : ∀ k : Nat, k ≤ N →
    LSV pw (L2_X7_leastHours p zd zt cA pw ho j1 now ct nx S O M C 0 y3 y5 k).1 (L2_X7_leastHours p zd zt cA pw ho j1 now ct nx S O M C 0 y3 y5 k).2.1 (L2_X7_leastHours p zd zt cA pw ho j1 now ct nx S O M C 0 y3 y5 k).2.2.2.2.2.2.1 (ho + j1 - ho + 1) (fun y => ∃ i : Nat, i < k ∧ ∃ K : Int32, SetOf p (chX cA (now i) (ho + j1) zt) K ∧ y = F_X7_stateAfter zd (now i) K) ∧
    ∀ q t : Nat, t < 32 → ¬ t = ho + j1 - ho + 1 → bt ((L2_X7_leastHours p zd zt cA pw ho j1 now ct nx S O M C 0 y3 y5 k).1 q) t = bt (ct q) t
  | 0, _ => ⟨(LS_none hf).iff fun y => ⟨fun z => z.elim, fun ⟨_, z, _⟩ => absurd z (Nat.not_lt_zero _)⟩, fun _ _ _ _ => rfl⟩
  | k + 1, hk => by
    obtain ⟨ih, ib⟩ := l2_LS hpw hp (nx := nx) (O := O) (C := C) (y5 := y5) h32 hg hI hf k (by omega)
    have hi2 := (l2_ok (zd := zd) (zt := zt) (cA := cA) (pw := pw) (ho := ho) (j1 := j1) (now := now) (ct := ct) (nx := nx) (O := O) (C := C) (y5 := y5) hp hI NC_0 k).1
    have e : L2_X7_leastHours p zd zt cA pw ho j1 now ct nx S O M C 0 y3 y5 (k + 1) = L2_X7_leastHourss p zd zt cA pw ho j1 now k (L2_X7_leastHours p zd zt cA pw ho j1 now ct nx S O M C 0 y3 y5 k).1 (L2_X7_leastHours p zd zt cA pw ho j1 now ct nx S O M C 0 y3 y5 k).2.1 (L2_X7_leastHours p zd zt cA pw ho j1 now ct nx S O M C 0 y3 y5 k).2.2.1 (L2_X7_leastHours p zd zt cA pw ho j1 now ct nx S O M C 0 y3 y5 k).2.2.2.1 (L2_X7_leastHours p zd zt cA pw ho j1 now ct nx S O M C 0 y3 y5 k).2.2.2.2.1 (L2_X7_leastHours p zd zt cA pw ho j1 now ct nx S O M C 0 y3 y5 k).2.2.2.2.2.1 (L2_X7_leastHours p zd zt cA pw ho j1 now ct nx S O M C 0 y3 y5 k).2.2.2.2.2.2.1 (L2_X7_leastHours p zd zt cA pw ho j1 now ct nx S O M C 0 y3 y5 k).2.2.2.2.2.2.2.1 (L2_X7_leastHours p zd zt cA pw ho j1 now ct nx S O M C 0 y3 y5 k).2.2.2.2.2.2.2.2 := rfl
    rw [e]
    generalize L2_X7_leastHours p zd zt cA pw ho j1 now ct nx S O M C 0 y3 y5 k = u at ih ib hi2 ⊢
    obtain ⟨f1, f2⟩ := fR_sets (cA := cA) (O := u.2.2.2.1) (fC := u.2.2.2.2.2.1) (x := now k) (ho := ho + j1) (tg := zt) hp hi2
    have hgk := hg k (by omega)
    have hZ : ∀ y : Int32, (∃ i : Nat, i < k ∧ ∃ K : Int32, SetOf p (chX cA (now i) (ho + j1) zt) K ∧ y = F_X7_stateAfter zd (now i) K) → GS y := fun y hy => by
      obtain ⟨i, hi, K, hK, rfl⟩ := hy
      exact gs_after (hg i (by omega)) (hK.s7 hp)
    obtain ⟨g1, g2⟩ := ab_LS hpw h32 hgk (S := (F_X7_findRows p cA u.2.2.1 u.2.2.2.1 u.2.2.2.2.1 u.2.2.2.2.2.1 u.2.2.2.2.2.2.2.1 (now k) (ho + j1) zt).1) (zd := zd) (fo := 0) hZ ih (tN (F_X7_findRows p cA u.2.2.1 u.2.2.2.1 u.2.2.2.2.1 u.2.2.2.2.2.1 u.2.2.2.2.2.2.2.1 (now k) (ho + j1) zt).2.2.2.2) (fun i hi => (f1 i hi).s7 hp)
    refine ⟨LSV.iff (show LSV pw _ _ _ _ _ from g1) fun y => ?_, fun q t ht hne => (show _ = _ from g2 q t ht hne).trans (ib q t ht hne)⟩
    constructor
    · rintro (⟨i, hi, K, hK, a⟩ | ⟨i, hi, -, a⟩)
      · exact ⟨i, by omega, K, hK, a⟩
      · exact ⟨k, by omega, _, f1 i hi, a⟩
    · rintro ⟨i, hi, K, hK, a⟩
      by_cases y2 : i = k
      · rw [y2] at hK a
        obtain ⟨t, ht, q⟩ := f2 K hK
        exact Or.inr ⟨t, ht, and_0l _, by rw [q]; exact a⟩
      · exact Or.inl ⟨i, by omega, K, hK, a⟩
theorem dio_0 {zi0 : Int32} {nw : Nat → Int32} (hN : NC zi0) : ∀ m j : Nat, tN zi0 < m + j → j ≤ tN zi0 → (L1_X7_isDoneInOne zm zi0 nw m j = 0 ↔ ∀ i : Nat, j ≤ i → i < tN zi0 → F_X7_isDone zm (F_X7_knownIn (nw i)) = 0)
  | 0, j, h, h2 => absurd h (by omega)
  | m + 1, j, h, h2 => by
    have hN2 := hN.2
    rw [L1_X7_isDoneInOne]
    by_cases c1 : nI (tN zi0) ≤ nI j
    · rw [if_pos c1]
      have := (nI_leI (a := tN zi0) (b := j) (by omega) (by omega)).mp c1
      exact ⟨fun _ i hi hi2 => absurd hi2 (by omega), fun _ => rfl⟩
    · rw [if_neg c1]
      have hlt : j < tN zi0 := by
        have z : ¬ tN zi0 ≤ j := fun z => c1 ((nI_leI (by omega) (by omega)).mpr z)
        omega
      by_cases c2 : F_X7_isDone zm (F_X7_knownIn (nw j)) = 0
      · rw [if_pos c2, dio_0 hN m (j + 1) (by omega) (by omega)]
        constructor
        · intro q i hi hi2
          by_cases e : i = j
          · rw [e]; exact c2
          · exact q i (by omega) hi2
        · intro q i hi hi2
          exact q i (by omega) hi2
      · rw [if_neg c2]
        exact ⟨fun q => absurd q (by decide), fun q => absurd (q j (Nat.le_refl _) hlt) c2⟩
theorem lh_main (hpw : PWT pw) (hp : p ≤ 7) (hho : ho ≤ 24) (h0 : GS s0) : ∀ (m j : Nat) (ct now nx S O M C : Nat → Int32) (y12 y3 y5 : Int32) (p10 p11 : Nat), 25 - ho < m + j → j ≤ 25 - ho → RI S M y3 → NC y12 → (∀ i : Nat, i < tN y12 → ZS p ho zd zt cA s0 j (now i)) → (∀ x : Int32, ZS p ho zd zt cA s0 j x → ∃ i : Nat, i < tN y12 ∧ now i = x) → (∀ q t : Nat, q < 2187 → j < t → t < 32 → bt (ct q) t = false) → (∀ n : Nat, n ≤ j → ¬ ZP p ho zd zt cA s0 zm n) → LSA (ZP p ho zd zt cA s0 zm) (25 - ho) (L1_X7_leastHours p zd zt zm cA pw ho m j ct now nx S O M C y12 y3 y5 p10 p11).1
  | 0, j, _, _, _, _, _, _, _, _, _, _, _, _, h, h2, _, _, _, _, _, _ => absurd h (by omega)
  | m + 1, j, ct, now, nx, S, O, M, C, y12, y3, y5, p10, p11, h, h2, h3, h4, h5, h6, h7, h8 => by
    rw [L1_X7_leastHours]
    by_cases c1 : (24 : Int32) < nI (ho + j)
    · rw [if_pos c1]
      have z : 24 < ho + j := (nI_ltI (a := 24) (b := ho + j) (by omega) (by omega)).mp c1
      exact Or.inl ⟨rfl, fun n hn => h8 n (by omega)⟩
    · rw [if_neg c1]
      have hj : ho + j ≤ 24 := by
        by_cases z : ho + j ≤ 24
        · exact z
        · exact absurd ((nI_ltI (a := 24) (b := ho + j) (by omega) (by omega)).mpr (by omega)) c1
      have ehs : ho + j - ho + 1 = j + 1 := by omega
      have hg : ∀ i : Nat, i < tN y12 → GS (now i) := fun i hi => zs_gs hp h0 j _ (h5 i hi)
      obtain ⟨g1, g2⟩ := l2_LS hpw hp (zd := zd) (zt := zt) (cA := cA) (ho := ho) (j1 := j) (now := now) (ct := ct) (nx := nx) (O := O) (C := C) (y5 := y5) (by omega) hg h3 (fun q hq => by rw [ehs]; exact h7 q (j + 1) hq (by omega) (by omega)) (tN y12) (Nat.le_refl _)
      obtain ⟨a, b⟩ := l2_ok (zd := zd) (zt := zt) (cA := cA) (pw := pw) (ho := ho) (j1 := j) (now := now) (ct := ct) (nx := nx) (O := O) (C := C) (y5 := y5) hp h3 NC_0 (tN y12)
      generalize hu : L2_X7_leastHours p zd zt cA pw ho j now ct nx S O M C 0 y3 y5 (tN y12) = u at g1 g2 a b ⊢
      obtain ⟨k1, k2, k3, k4, k5⟩ := g1
      have hz : ∀ y : Int32, (∃ i : Nat, i < tN y12 ∧ ∃ K : Int32, SetOf p (chX cA (now i) (ho + j) zt) K ∧ y = F_X7_stateAfter zd (now i) K) ↔ ZS p ho zd zt cA s0 (j + 1) y := fun y => by
        constructor
        · rintro ⟨i, hi, K, hK, e⟩
          exact ⟨now i, h5 i hi, K, hK, e⟩
        · rintro ⟨x, hx, K, hK, e⟩
          obtain ⟨i, hi, q⟩ := h6 x hx
          exact ⟨i, hi, K, by rw [q]; exact hK, by rw [q]; exact e⟩
      have hd := dio_0 (zm := zm) (nw := u.2.1) b (tN u.2.2.2.2.2.2.1 + 1) 0 (by omega) (Nat.zero_le _)
      have hP : F_X7_isDoneInOne zm u.2.2.2.2.2.2.1 u.2.1 = 0 ↔ ¬ ZP p ho zd zt cA s0 zm (j + 1) := by
        refine hd.trans ⟨?_, ?_⟩
        · rintro q ⟨y, hy, hy2⟩
          obtain ⟨i, hi, e⟩ := k3 y ((hz y).mpr hy)
          exact hy2 (by rw [← e]; exact q i (Nat.zero_le _) hi)
        · intro q i _ hi
          by_cases e : F_X7_isDone zm (F_X7_knownIn (u.2.1 i)) = 0
          · exact e
          · exact absurd ⟨_, (hz _).mp (k2 i hi), e⟩ q
      by_cases c2 : F_X7_isDoneInOne zm u.2.2.2.2.2.2.1 u.2.1 = 0
      · rw [if_pos c2]
        refine lh_main hpw hp hho h0 m (j + 1) _ _ _ _ _ _ _ _ _ _ _ _ (by omega) (by omega) a b (fun i hi => (hz _).mp (k2 i hi)) (fun x hx => k3 x ((hz x).mpr hx)) (fun q t hq ht1 ht2 => ?_) (fun n hn => ?_)
        · rw [g2 q t ht2 (by omega)]
          exact h7 q t hq (by omega) ht2
        · by_cases e : n = j + 1
          · rw [e]; exact hP.mp c2
          · exact h8 n (by omega)
      · rw [if_neg c2]
        have hyes : ZP p ho zd zt cA s0 zm (j + 1) := Classical.byContradiction fun z => c2 (hP.mpr z)
        exact Or.inr ⟨j + 1, by omega, congrArg nI ehs, hyes, fun n hn => h8 n (by omega)⟩
theorem done_iff {x : Int32} : ¬ F_X7_isDone zm x = 0 ↔ zm &&& (x ^^^ (-1 : Int32)) = 0 := by
  unfold F_X7_isDone
  by_cases c : zm &&& (x ^^^ (-1 : Int32)) = 0
  · rw [if_pos c]; exact ⟨fun _ => c, fun _ => by decide⟩
  · rw [if_neg c]; exact ⟨fun q => absurd rfl q, fun q => absurd q c⟩
theorem done_bits {x : Int32} : zm &&& (x ^^^ (-1 : Int32)) = 0 ↔ ∀ i : Nat, i < 32 → bt zm i = true → bt x i = true := by
  constructor
  · intro h i hi q
    have e : bt (zm &&& (x ^^^ (-1 : Int32))) i = false := by rw [h, b_0]
    rw [b_and, b_nt _ hi, q, Bool.true_and] at e
    cases z : bt x i with
    | true => rfl
    | false => rw [z] at e; cases e
  · intro h
    refine b_ext fun i hi => ?_
    rw [b_and, b_nt _ hi, b_0]
    cases z : bt zm i with
    | false => rfl
    | true => rw [h i hi z]; rfl
theorem done_up {x y : Int32} (h : ∀ i : Nat, i < 32 → bt x i = true → bt y i = true) (q : ¬ F_X7_isDone zm x = 0) : ¬ F_X7_isDone zm y = 0 := done_iff.mpr (done_bits.mpr fun i hi z => h i hi (done_bits.mp (done_iff.mp q) i hi z))
theorem set_in {x C : Int32} {h : Nat} (hp : p ≤ 7) (hC : SetOf p (chX cA x h zt) C) {i : Nat} (hi : i < 32) (q : bt C i = true) : ∃ a : Nat, a < p ∧ i < p ∧ bt (F_X7_knownIn x) a = true ∧ bt (cA (h * 7 + a)) i = true ∧ bt zt i = true ∧ bt (F_X7_knownIn x) i = false := by
  obtain ⟨r, h1, -, rfl⟩ := hC
  obtain ⟨a, ha, e1, e2⟩ := (rset_bit p (fun a ha => h1.le hp ha) i hi).mp q
  rcases h1 a ha with z | ⟨z1, z2, -⟩
  · exact absurd z e2
  · rw [e1] at z1 z2
    unfold chX at z2
    by_cases c : hasv (F_X7_knownIn x) (nI a) = 0
    · rw [if_pos c, b_0] at z2; cases z2
    · rw [if_neg c, b_and, b_and, b_nt _ hi, Bool.and_eq_true, Bool.and_eq_true, Bool.not_eq_true'] at z2
      exact ⟨a, ha, z1, (bt_hasv (by omega)).mp c, z2.1.1, z2.1.2, z2.2⟩
theorem kn_after {x C : Int32} (hx : GS x) (hC : s7 C) : F_X7_knownIn (F_X7_stateAfter zd x C) = F_X7_knownIn x ||| (C &&& F_X7_understands zd x) := by
  obtain ⟨k, o, hk, ho, -, rfl⟩ := hx
  exact st_kn (by rw [st_kn hk]; exact s7_or hk (s7_al hC))
theorem on_after {x C : Int32} (hx : GS x) (hC : s7 C) : F_X7_onceIn (F_X7_stateAfter zd x C) = (F_X7_onceIn x ||| C) &&& ((F_X7_knownIn x ||| (C &&& F_X7_understands zd x)) ^^^ (-1 : Int32)) := by
  obtain ⟨k, o, hk, ho, -, rfl⟩ := hx
  exact st_on (by rw [st_kn hk]; exact s7_or hk (s7_al hC)) (by rw [st_on hk ho]; exact s7_al (s7_or ho hC))
theorem cby_in (hp : p ≤ 7) (h0 : GS s0) : ∀ (n : Nat) (y : Int32), ZS p ho zd zt cA s0 n y → ∀ i : Nat, i < 32 → bt (F_X7_knownIn y) i = true → bt (L1_X7_comeToBy p cA ho (F_X7_knownIn s0) n) i = true
  | 0, y, h, i, _, q => by
    have e : y = s0 := h
    rw [e] at q; exact q
  | n + 1, y, h, i, hi, q => by
    obtain ⟨x, hx, C, hC, rfl⟩ := h
    have ih := cby_in hp h0 n x hx
    rw [kn_after (zs_gs hp h0 n x hx) (hC.s7 hp), b_or, b_and, Bool.or_eq_true, Bool.and_eq_true] at q
    show bt (L1_X7_comeToAfter cA (L1_X7_comeToBy p cA ho (F_X7_knownIn s0) n) (ho + n) (L1_X7_comeToBy p cA ho (F_X7_knownIn s0) n) p) i = true
    rw [come_bit hi hp p (Nat.le_refl _)]
    rcases q with q | ⟨q, -⟩
    · exact Or.inl (ih i hi q)
    · obtain ⟨a, ha, -, z1, z2, -⟩ := set_in hp hC hi q
      exact Or.inr ⟨a, ha, ih a (by omega) z1, z2⟩
theorem cby_up (hp : p ≤ 7) {k0 : Int32} : ∀ (d n : Nat) (i : Nat), i < 32 → bt (L1_X7_comeToBy p cA ho k0 n) i = true → bt (L1_X7_comeToBy p cA ho k0 (n + d)) i = true
  | 0, _, _, _, q => q
  | d + 1, n, i, hi, q => by
    have ih := cby_up hp d n i hi q
    show bt (L1_X7_comeToAfter cA (L1_X7_comeToBy p cA ho k0 (n + d)) (ho + (n + d)) (L1_X7_comeToBy p cA ho k0 (n + d)) p) i = true
    rw [come_bit hi hp p (Nat.le_refl _)]
    exact Or.inl ih
theorem lh_val (hpw : PWT pw) (hp : p ≤ 7) (hho : ho ≤ 24) {x y : Int32} {P Q : Nat} {now nx S O M C : Nat → Int32} {rc rp : Int32} (hx : s7 x) (hy : s7 y) (hxy : x &&& y = 0) (hI : RI S M rc) : LSA (ZP p ho zd zt cA (F_X7_state x y) zm) (25 - ho) (F_X7_leastHours P Q p zd zt zm cA pw now nx S O M C rc rp x y ho).1 := by
  have h0 : GS (F_X7_state x y) := ⟨x, y, hx, hy, hxy, rfl⟩
  have hk := st_kn (o := y) hx
  unfold F_X7_leastHours
  by_cases c1 : F_X7_isDone zm x = 0
  · rw [if_pos c1]
    have hn0 : ¬ ZP p ho zd zt cA (F_X7_state x y) zm 0 := fun ⟨z, hz, q⟩ => by
      have e : z = F_X7_state x y := hz
      rw [e, hk] at q
      exact q c1
    by_cases c2 : F_X7_isDone zm (F_X7_comeToBy p cA x ho 24) = 0
    · rw [if_pos c2]
      refine Or.inl ⟨rfl, fun n hn ⟨z, hz, q⟩ => ?_⟩
      refine done_up (fun i hi t => ?_) q c2
      have e := cby_in hp h0 n z hz i hi t
      rw [hk] at e
      show bt (L1_X7_comeToBy p cA ho x (24 + 1 - ho)) i = true
      have e2 := cby_up hp (24 + 1 - ho - n) n i hi e
      rw [show n + (24 + 1 - ho - n) = 24 + 1 - ho by omega] at e2
      exact e2
    · rw [if_neg c2]
      have hb : LSV pw (F_X7_begin pw nx x y).1 (F_X7_begin pw nx x y).2.1 (F_X7_begin pw nx x y).2.2 0 (fun z => z = F_X7_state x y) := by
        unfold F_X7_begin
        dsimp only
        have a := ar_LS (hs := 0) hpw (by omega) (fun z hz => hz.elim) h0 (LS_none (pw := pw) (hs := 0) (ct := fun _ => 0) (nx := nx) (fun q _ => b_0 _))
        rw [show nI 0 = (0 : Int32) from rfl] at a
        exact LSV.iff a fun z => ⟨fun a => a.elim (fun b => b.elim) id, Or.inr⟩
      have hbb : ∀ q t : Nat, t < 32 → ¬ t = 0 → bt ((F_X7_begin pw nx x y).1 q) t = false := fun q t ht hne => by
        unfold F_X7_begin
        dsimp only
        have a := ar_bits (zc := 0) (pw := pw) (ct := fun _ => 0) (nx := nx) (x := F_X7_state x y) (hs := 0) (by omega) (q := q) ht hne
        rw [show nI 0 = (0 : Int32) from rfl] at a
        rw [a]
        exact b_0 _
      obtain ⟨k1, k2, k3, -, -⟩ := hb
      refine lh_main hpw hp hho h0 _ 0 _ _ _ _ _ _ _ _ _ _ _ _ (by omega) (Nat.zero_le _) hI k1 k2 k3 (fun q t hq ht1 ht2 => ?_) (fun n hn => ?_)
      · exact hbb q t ht2 (by omega)
      · obtain rfl : n = 0 := by omega
        exact hn0
  · rw [if_neg c1]
    exact Or.inr ⟨0, Nat.zero_le _, rfl, ⟨_, rfl, by rw [hk]; exact c1⟩, fun k hk => absurd hk (Nat.not_lt_zero _)⟩
end

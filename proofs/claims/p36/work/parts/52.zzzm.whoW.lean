/-! who can have begun: first states, and the same people on both sides -/
/-- the tales look so at first that this one alone can have begun -/
def TCw (p : Nat) (T : Nat → Int32) (fi : Nat) : Prop := ∀ o : Nat, o < p → (T o = 0 → o = fi) ∧ (o = fi → T o ≤ 0)
theorem tc_iff {p fi : Nat} {T : Nat → Int32} (hp : p ≤ 7) (hf : fi < p) (hT : TTw p T) : TCw p T fi ↔ ATo p T 0 ((1 : Int32) <<< (nI fi &&& 31)) := by
  have hb : ∀ o : Nat, o < p → (bt ((1 : Int32) <<< (nI fi &&& 31)) o = true ↔ o = fi) := fun o ho => by rw [b_sh1 (by omega) (by omega), decide_eq_true_eq]
  constructor
  · intro h o ho ht
    rw [hb o ho]
    obtain ⟨h1, h2⟩ := h o ho
    constructor
    · intro e q
      exact (show ¬ nI 0 < T o from Int32.not_lt.mpr (h2 e)) q
    · intro q
      rcases hT o ho with z | ⟨t, t1, t2⟩
      · exact absurd z ht
      · rw [t2] at q
        have z : ¬ 0 < t := fun w => q ((nI_ltI (by omega) (by omega)).mpr w)
        have e0 : t = 0 := by omega
        exact h1 (t2.trans (congrArg nI e0))
  · intro h o ho
    constructor
    · intro e
      have ht : ¬ T o = -1 := by rw [e]; decide
      exact (hb o ho).mp ((h o ho ht).mpr (by rw [e]; decide))
    · intro e
      by_cases ht : T o = -1
      · rw [ht]; decide
      · exact Int32.not_lt.mp (show ¬ (0 : Int32) < T o from (h o ho ht).mp ((hb o ho).mpr e))
theorem mx_up {x y : Int32} (h : T24 x) (hy : y = -1 ∨ ∃ t : Nat, t ≤ 24 ∧ y = nI t) : T24 (mx2 x y) ∧ tN x ≤ tN (mx2 x y) ∧ ∀ t : Nat, t ≤ 24 → y = nI t → t ≤ tN (mx2 x y) := by
  have hx2 := h.2
  rcases hy with e | ⟨t0, t1, e⟩
  · have c : ¬ x < y := fun q => by
      have h0 : (0 : Int32) ≤ x := by rw [h.1]; exact nI_ge0 (by omega)
      rw [e] at q
      exact absurd (Int32.lt_of_le_of_lt h0 q) (by decide)
    have e2 : mx2 x y = x := if_neg c
    rw [e2]
    refine ⟨h, Nat.le_refl _, fun t ht q => ?_⟩
    have := nI_ge0 (k := t) (by omega)
    rw [← q, e] at this
    exact absurd this (by decide)
  · have eq : x < y ↔ tN x < t0 := by
      have w := nI_ltI (a := tN x) (b := t0) (by omega) (by omega)
      rw [← h.1, ← e] at w
      exact w
    by_cases c : x < y
    · have e2 : mx2 x y = nI t0 := (if_pos c).trans e
      have ht : tN (nI t0) = t0 := tN_nI (by omega)
      have := eq.mp c
      rw [e2]
      refine ⟨⟨by rw [ht], by rw [ht]; exact t1⟩, by rw [ht]; omega, fun t ht2 q => ?_⟩
      rw [ht]
      have := (nI_eq (a := t0) (b := t) (by omega) (by omega)).mp (e.symm.trans q)
      omega
    · have e2 : mx2 x y = x := if_neg c
      rw [e2]
      have hn : ¬ tN x < t0 := fun q => c (eq.mpr q)
      refine ⟨h, Nat.le_refl _, fun t ht2 q => ?_⟩
      have := (nI_eq (a := t0) (b := t) (by omega) (by omega)).mp (e.symm.trans q)
      omega
section
variable {p ni fi : Nat} {zd zt : Int32} {cA cB pw ta : Nat → Int32}
abbrev TLw (ni : Nat) (ta : Nat → Int32) : Nat → Int32 := fun o => F_X10_taleOf ni o ta
abbrev laF (p ni fi : Nat) (ta : Nat → Int32) : Int32 := F_X10_whoHasTale p ni ta &&& (((1 : Int32) <<< (nI fi &&& 31)) ^^^ (-1 : Int32))
theorem la_of (hp : p ≤ 7) (hf : fi < p) (hT : TTw p (TLw ni ta)) (hC : TCw p (TLw ni ta) fi) : ∀ h : Nat, h ≤ 24 → ∀ o : Nat, o < 32 → (bt (LAw p ni ta (laF p ni fi ta) h) o = true ↔ o < p ∧ ¬ TLw ni ta o = -1 ∧ nI h < TLw ni ta o)
  | 0, _, o, ho => by
    have e : bt (laF p ni fi ta) o = true ↔ (o < p ∧ ¬ TLw ni ta o = -1) ∧ ¬ o = fi := by
      have w := whose_bit (p := p) (nw := ni) (h := -1) (ta := ta) hp ho
      have e1 : bt (laF p ni fi ta) o = ((decide (o < p) && !bt (F_X10_whoseTaleIs p ni (-1 : Int32) ta) o) && !decide (o = fi)) := by
        unfold laF F_X10_whoHasTale
        rw [b_and, b_and, b_evy p (by omega) o ho, b_nt _ ho, b_nt _ ho, b_sh1 (by omega) ho]
      rw [e1, Bool.and_eq_true, Bool.and_eq_true, decide_eq_true_eq, Bool.not_eq_true', Bool.not_eq_true', decide_eq_false_iff_not]
      refine and_congr (and_congr_right fun h1 => ?_) Iff.rfl
      constructor
      · intro q z
        rw [w.mpr ⟨h1, z⟩] at q; cases q
      · intro q
        cases v : bt (F_X10_whoseTaleIs p ni (-1 : Int32) ta) o with
        | false => rfl
        | true => exact absurd (w.mp v).2 q
    refine (show bt (LAw p ni ta (laF p ni fi ta) 0) o = true ↔ _ from e).trans ⟨fun ⟨⟨q1, q2⟩, q3⟩ => ⟨q1, q2, ?_⟩, fun ⟨q1, q2, q3⟩ => ⟨⟨q1, q2⟩, fun z => ?_⟩⟩
    · rcases hT o q1 with z | ⟨t, t1, t2⟩
      · exact absurd z q2
      · rw [t2]
        refine (nI_ltI (by omega) (by omega)).mpr ?_
        by_cases w : t = 0
        · exact absurd ((hC o q1).1 (t2.trans (congrArg nI w))) q3
        · omega
    · exact absurd q3 (show ¬ nI 0 < TLw ni ta o from Int32.not_lt.mpr ((hC o q1).2 z))
  | h + 1, hh, o, ho => by
    have i := la_of hp hf hT hC h (by omega) o ho
    have w := whose_bit (p := p) (nw := ni) (h := nI (h + 1)) (ta := ta) hp ho
    have e : bt (LAw p ni ta (laF p ni fi ta) (h + 1)) o = (bt (LAw p ni ta (laF p ni fi ta) h) o && !bt (F_X10_whoseTaleIs p ni (nI (h + 1)) ta) o) := by
      show bt (LAw p ni ta (laF p ni fi ta) h &&& (F_X10_whoseTaleIs p ni (nI (h + 1)) ta ^^^ (-1 : Int32))) o = _
      rw [b_and, b_nt _ ho]
    rw [e, Bool.and_eq_true, Bool.not_eq_true', i]
    constructor
    · rintro ⟨⟨q1, q2, q3⟩, q4⟩
      refine ⟨q1, q2, ?_⟩
      rcases hT o q1 with z | ⟨t, t1, t2⟩
      · exact absurd z q2
      · rw [t2] at q3 ⊢
        have l := (nI_ltI (by omega) (by omega)).mp q3
        refine (nI_ltI (by omega) (by omega)).mpr ?_
        by_cases e2 : t = h + 1
        · exact absurd (w.mpr ⟨q1, t2.trans (congrArg nI e2)⟩) (by rw [q4]; decide)
        · omega
    · rintro ⟨q1, q2, q3⟩
      rcases hT o q1 with z | ⟨t, t1, t2⟩
      · exact absurd z q2
      · rw [t2] at q3
        have l := (nI_ltI (by omega) (by omega)).mp q3
        refine ⟨⟨q1, q2, ?_⟩, ?_⟩
        · rw [t2]
          exact (nI_ltI (by omega) (by omega)).mpr (by omega)
        · cases v : bt (F_X10_whoseTaleIs p ni (nI (h + 1)) ta) o with
          | false => rfl
          | true =>
            have := (nI_eq (a := t) (b := h + 1) (by omega) (by omega)).mp (t2.symm.trans (w.mp v).2)
            omega
theorem wh_leaf (hpw : PWT pw) (hp : p ≤ 7) (hf : fi < p) (hT : TTw p (TLw ni ta)) (hzt : ∀ i : Nat, i < 32 → bt zt i = true → i < p) {x4 y3 y5 : Int32} {now nx S O M C : Nat → Int32} {p10 p11 : Nat} (hI : RI S M y3) (h4 : T24 x4) (hC : TCw p (TLw ni ta) fi) (hm : ∀ o : Nat, o < p → ∀ t : Nat, t ≤ 24 → TLw ni ta o = nI t → t ≤ tN x4) : ¬ (L2_X7_canHaveBegun p zd zt cA pw p ta ni x4 (tN x4 + 1) 0 (laF p ni fi ta) (F_X7_begin pw nx ((1 : Int32) <<< (nI fi &&& 31)) 0).1 (F_X7_begin pw nx ((1 : Int32) <<< (nI fi &&& 31)) 0).2.1 now S O M C (F_X7_begin pw nx ((1 : Int32) <<< (nI fi &&& 31)) 0).2.2 y3 y5 p10 p11).1 = 0 ↔ ∃ y : Int32, WRx p zd zt cA (TLw ni ta) (F_X7_state ((1 : Int32) <<< (nI fi &&& 31)) 0) 24 y := by
  have hb7 : s7 ((1 : Int32) <<< (nI fi &&& 31)) := s7_b1 (by omega)
  have h0 : GS (F_X7_state ((1 : Int32) <<< (nI fi &&& 31)) 0) := gs_0 hb7
  have hA := (tc_iff hp hf hT).mp hC
  have hb := be_LSV (nx := nx) hpw h0
  obtain ⟨k1, k2, k3, -, -⟩ := hb
  have q := wh_main (p := p) (ni := ni) (pe := p) (zd := zd) (zt := zt) (cA := cA) (ta := ta) (x0 := F_X7_state ((1 : Int32) <<< (nI fi &&& 31)) 0) hpw hp (x4 := x4) (a0 := laF p ni fi ta) h4.2 h0 (tN x4 + 1) 0 (laF p ni fi ta) (F_X7_begin pw nx ((1 : Int32) <<< (nI fi &&& 31)) 0).1 (F_X7_begin pw nx ((1 : Int32) <<< (nI fi &&& 31)) 0).2.1 now S O M C (F_X7_begin pw nx ((1 : Int32) <<< (nI fi &&& 31)) 0).2.2 y3 y5 p10 p11 (by omega) (Nat.zero_le _) hI k1 rfl k2 k3 (fun q t hq ht1 ht2 => be_bits q ht2 (by omega))
  exact q.trans (who_both hp hT (fun h _ o ho => whose_bit hp ho) (la_of hp hf hT hC) hzt h0 (by rw [st_kn hb7]; exact hA) h4.2 hm).symm
theorem ch_main (hpw : PWT pw) (hp : p ≤ 7) (hf : fi < p) (hT : TTw p (TLw ni ta)) (hzt : ∀ i : Nat, i < 32 → bt zt i = true → i < p) {e5 e6 : Nat} {zi0 zi1 rc rp : Int32} {ct nw nx S O M C : Nat → Int32} (hI : RI S M rc) : ∀ (m j : Nat) (x4 : Int32), p < m + j → j ≤ p → T24 x4 → (∀ o : Nat, o < j → (TLw ni ta o = 0 → o = fi) ∧ (o = fi → TLw ni ta o ≤ 0)) → (∀ o : Nat, o < j → ∀ t : Nat, t ≤ 24 → TLw ni ta o = nI t → t ≤ tN x4) → (¬ (L1_X7_canHaveBegun e5 e6 p zd zt zi0 zi1 cA pw ct nw nx S O M C rc rp p ta ni fi m j x4).1 = 0 ↔ ATo p (TLw ni ta) 0 ((1 : Int32) <<< (nI fi &&& 31)) ∧ ∃ y : Int32, WRx p zd zt cA (TLw ni ta) (F_X7_state ((1 : Int32) <<< (nI fi &&& 31)) 0) 24 y)
  | 0, j, _, h, h2, _, _, _ => absurd h (by omega)
  | m + 1, j, x4, h, h2, h4, h5, h6 => by
    rw [L1_X7_canHaveBegun]
    by_cases c1 : nI p ≤ nI j
    · rw [if_pos c1]
      have hj : j = p := by
        have := (nI_leI (a := p) (b := j) (by omega) (by omega)).mp c1
        omega
      rw [hj] at h5 h6
      have hC : TCw p (TLw ni ta) fi := h5
      exact (wh_leaf hpw hp hf hT hzt hI h4 hC h6).trans ⟨fun z => ⟨(tc_iff hp hf hT).mp hC, z⟩, fun z => z.2⟩
    · rw [if_neg c1]
      have hj : j < p := by
        have z : ¬ p ≤ j := fun z => c1 ((nI_leI (by omega) (by omega)).mpr z)
        omega
      have eqj : nI j = nI fi ↔ j = fi := nI_eq (by omega) (by omega)
      have hTj : F_X10_taleOf ni j ta = -1 ∨ ∃ t : Nat, t ≤ 24 ∧ F_X10_taleOf ni j ta = nI t := hT j hj
      obtain ⟨m1, m2, m3⟩ := mx_up h4 hTj
      have go : (F_X10_taleOf ni j ta = 0 → j = fi) → (j = fi → F_X10_taleOf ni j ta ≤ 0) → (¬ (L1_X7_canHaveBegun e5 e6 p zd zt zi0 zi1 cA pw ct nw nx S O M C rc rp p ta ni fi m (j + 1) (mx2 x4 (F_X10_taleOf ni j ta))).1 = 0 ↔ ATo p (TLw ni ta) 0 ((1 : Int32) <<< (nI fi &&& 31)) ∧ ∃ y : Int32, WRx p zd zt cA (TLw ni ta) (F_X7_state ((1 : Int32) <<< (nI fi &&& 31)) 0) 24 y) := fun g1 g2 => by
        refine ch_main hpw hp hf hT hzt hI m (j + 1) _ (by omega) (by omega) m1 (fun o ho => ?_) (fun o ho t ht q => ?_)
        · by_cases y : o = j
          · rw [y]; exact ⟨g1, g2⟩
          · exact h5 o (by omega)
        · by_cases y : o = j
          · rw [y] at q; exact m3 t ht q
          · have := h6 o (by omega) t ht q
            omega
      have no : ¬ ((F_X10_taleOf ni j ta = 0 → j = fi) ∧ (j = fi → F_X10_taleOf ni j ta ≤ 0)) → (¬ (0 : Int32) = 0 ↔ ATo p (TLw ni ta) 0 ((1 : Int32) <<< (nI fi &&& 31)) ∧ ∃ y : Int32, WRx p zd zt cA (TLw ni ta) (F_X7_state ((1 : Int32) <<< (nI fi &&& 31)) 0) 24 y) := fun z => ⟨fun q => absurd rfl q, fun q => absurd ((tc_iff hp hf hT).mpr q.1 j hj) z⟩
      by_cases c2 : F_X10_taleOf ni j ta = 0
      · rw [if_pos c2]
        by_cases c3 : nI j = nI fi
        · rw [if_pos c3]
          by_cases c4 : F_X10_taleOf ni j ta ≤ 0
          · rw [if_pos c4]
            exact go (fun _ => eqj.mp c3) (fun _ => c4)
          · exact absurd (by rw [c2]; decide) c4
        · rw [if_neg c3]
          exact no fun z => c3 (eqj.mpr (z.1 c2))
      · rw [if_neg c2]
        by_cases c4 : F_X10_taleOf ni j ta ≤ 0
        · rw [if_pos c4]
          exact go (fun z => absurd z c2) (fun _ => c4)
        · rw [if_neg c4]
          by_cases c3 : nI j = nI fi
          · rw [if_pos c3]
            exact no fun z => c4 (z.2 (eqj.mp c3))
          · rw [if_neg c3]
            exact go (fun z => absurd z c2) (fun z => absurd (eqj.mpr z) c3)
theorem wrx_cong {T : Nat → Int32} {x0 : Int32} (e : ∀ h a : Nat, 1 ≤ h → h ≤ 24 → a < p → cA (h * 7 + a) = cB (h * 7 + a)) : ∀ j : Nat, j ≤ 24 → ∀ y : Int32, WRx p zd zt cA T x0 j y → WRx p zd zt cB T x0 j y
  | 0, _, _, q => q
  | j + 1, hj, y, q => by
    obtain ⟨x, r, hx, hr, e1, hk⟩ := q
    refine ⟨x, r, wrx_cong e j (by omega) x hx, fun a ha => ?_, e1, hk⟩
    rw [← chX_cong (x := x) (zt := zt) (e (j + 1) a (by omega) hj ha)]
    exact hr a ha
end
section
variable {p ni fi i lc : Nat} {zd zt : Int32} {cA rA rB rD rF rO rS rT rW tA cN dN : Nat → Int32}
theorem fm_at : ∀ k q : Nat, q < k → L1_X12_canBegin fi cN k q = if nI q = (128 : Int32) <<< (nI fi &&& 31) then 1 else 0
  | 0, q, h => absurd h (Nat.not_lt_zero _)
  | k + 1, q, h => by
    show L1_X12_canBegins fi k (L1_X12_canBegin fi cN k) q = _
    unfold L1_X12_canBegins
    by_cases e : q = k
    · subst e
      by_cases c : nI q = (128 : Int32) <<< (nI fi &&& 31)
      · rw [if_pos c, if_pos c]; exact upd_eq
      · rw [if_neg c, if_neg c]; exact upd_eq
    · have ih := fm_at k q (by omega)
      by_cases c : nI k = (128 : Int32) <<< (nI fi &&& 31)
      · rw [if_pos c]; exact (upd_ne e).trans ih
      · rw [if_neg c]; exact (upd_ne e).trans ih
theorem fm_pl : ∀ fi : Nat, fi < 7 → (128 : Int32) <<< (nI fi &&& 31) = nI (128 * tN ((1 : Int32) <<< (nI fi &&& 31))) := by decide +kernel
theorem fg_of (hf : fi < 7) : GD2 zd ((1 : Int32) <<< (nI fi &&& 31)) 0 := ⟨s7_b1 hf, s7_0, and_0r _, fun i _ q => by rw [b_0] at q; cases q⟩
theorem can_0 {T : Nat → Int32} (hf : fi < 7) : CANp p zd zt cA T (F_X7_state ((1 : Int32) <<< (nI fi &&& 31)) 0) 0 (L1_X12_canBegin fi cN 16384) := fun q hq => by
  have hb := s7_b1 hf
  have b1 := (s7_num hb).2
  have hb0 : tN (0 : Int32) = 0 := by decide
  rw [fm_at 16384 q hq, fm_pl fi hf]
  have e : nI q = nI (128 * tN ((1 : Int32) <<< (nI fi &&& 31))) ↔ q = 128 * tN ((1 : Int32) <<< (nI fi &&& 31)) := nI_eq (by omega) (by omega)
  constructor
  · intro z
    by_cases c : nI q = nI (128 * tN ((1 : Int32) <<< (nI fi &&& 31)))
    · exact ⟨_, 0, fg_of hf, by unfold PLr; rw [hb0]; exact e.mp c, rfl⟩
    · rw [if_neg c] at z; exact absurd rfl z
  · rintro ⟨k, o, hk, hq2, hw⟩
    have hw : F_X7_state k o = F_X7_state ((1 : Int32) <<< (nI fi &&& 31)) 0 := hw
    have ek : k = (1 : Int32) <<< (nI fi &&& 31) := by
      have := congrArg F_X7_knownIn hw
      rw [st_kn hk.1, st_kn hb] at this
      exact this
    have eo : o = 0 := by
      have := congrArg F_X7_onceIn hw
      rw [st_on hk.1 hk.2.1, st_on hb s7_0] at this
      exact this
    rw [ek, eo] at hq2
    unfold PLr at hq2
    rw [hb0] at hq2
    rw [if_pos (e.mpr hq2)]
    decide
theorem cb_ref (hp : p ≤ 7) (hf : fi < p) (hD : rD i = zd) (hH : CHH p zt cA (rS (4 * i + ni)) (MCf rA rB rF rT rW rO lc i)) : ¬ (F_X12_canBegin rD rS rA rB rF rT rW rO tA cN dN lc p i ni fi).1 = 0 ↔ ATo p (fun o => F_X12_taleOf tA i ni o) 0 ((1 : Int32) <<< (nI fi &&& 31)) ∧ ∃ y : Int32, WRx p zd zt cA (fun o => F_X12_taleOf tA i ni o) (F_X7_state ((1 : Int32) <<< (nI fi &&& 31)) 0) 24 y := by
  unfold F_X12_canBegin
  by_cases c : F_X12_isAsTold tA p i ni ((1 : Int32) <<< (nI fi &&& 31)) 0 = 0
  · rw [if_pos c]
    exact ⟨fun q => absurd rfl q, fun q => absurd c ((told_iff hp).mpr q.1)⟩
  · rw [if_neg c]
    have hA := (told_iff hp).mp c
    exact (can_hours hp hD hH ⟨_, 0, fg_of (by omega), rfl⟩ (24 + 1) 0 1 (L1_X12_canBegin fi cN 16384) dN (by omega) (Nat.zero_le _) (can_0 (by omega)) (Or.inr rfl) ⟨fun _ => ⟨_, show WRx p zd zt cA (fun o => F_X12_taleOf tA i ni o) (F_X7_state ((1 : Int32) <<< (nI fi &&& 31)) 0) 0 (F_X7_state ((1 : Int32) <<< (nI fi &&& 31)) 0) from rfl⟩, fun _ => by decide⟩).trans ⟨fun z => ⟨hA, z⟩, fun z => z.2⟩
end
/-- those with a property, as bits -/
noncomputable def whB (P : Nat → Prop) : Nat → Int32
  | 0 => 0
  | k + 1 => @ite _ (P k) (Classical.propDecidable _) (whB P k ||| ((1 : Int32) <<< (nI k &&& 31))) (whB P k)
theorem whB_y {P : Nat → Prop} {k : Nat} (h : P k) : whB P (k + 1) = whB P k ||| ((1 : Int32) <<< (nI k &&& 31)) := if_pos h
theorem whB_n {P : Nat → Prop} {k : Nat} (h : ¬ P k) : whB P (k + 1) = whB P k := if_neg h
/-- that one can have begun -/
def BGw (w : VV) (ni fi : Nat) : Prop := ATo w.p (TLw ni w.ta) 0 ((1 : Int32) <<< (nI fi &&& 31)) ∧ ∃ y : Int32, WRx w.p w.de (TPw w ni) (cAw w ni) (TLw ni w.ta) (F_X7_state ((1 : Int32) <<< (nI fi &&& 31)) 0) 24 y
noncomputable def woA (w : VV) (y : Int32) : Int32 := if F_X11_isNews y = 0 then -1 else whB (BGw w (tN y)) w.p
/-- tales as they are held -/
def TAw (w : VV) : Prop := ∀ j : Nat, j < 28 → w.ta j = -1 ∨ ∃ t : Nat, t ≤ 24 ∧ w.ta j = nI t
theorem taw_24 {w : VV} (h : TAw w) : ∀ j : Nat, j < 28 → w.ta j ≤ 24 := fun j hj => by
  rcases h j hj with e | ⟨t, t1, e⟩
  · rw [e]; decide
  · rw [e]
    exact (nI_leI (a := t) (b := 24) (by omega) (by omega)).mpr t1
theorem or_0r (x : Int32) : x ||| (0 : Int32) = x := b_ext fun i _ => by rw [b_or, b_0, Bool.or_false]
section
variable {w : VV} {F : Nat → Nat → Int32} {i ni : Nat}
theorem wl_cls {pw cA : Nat → Int32} {y : Int32} (ok : VOK w) (hpt : PWT pw) (hta : TAw w) (hy : tN y < 4) {ct nw nx S O M C : Nat → Int32} {zi0 zi1 rc rp : Int32} {e5 e6 : Nat} (hI : RI S M rc) : ∀ k : Nat, k ≤ w.p → (L1_X11_who1 cA pw w.p w.de w.mn (kx w) w.ta y 0 ct nw nx S O M C zi0 zi1 rc rp e5 e6 k).1 = whB (BGw w (tN y)) k
  | 0, _ => rfl
  | k + 1, hk => by
    have hp := ok.1
    have ih := wl_cls (cA := cA) ok hpt hta hy (ct := ct) (nw := nw) (nx := nx) (O := O) (C := C) (zi0 := zi0) (zi1 := zi1) (rp := rp) (e5 := e5) (e6 := e6) hI k (by omega)
    have hr := (wh1 (cA := cA) (pw := pw) (mn := w.mn) (K := kx w) (ta := w.ta) (pe := w.p) (de := w.de) (y := y) hp (taw_24 hta) hy (i0 := 0) (i1 := ct) (i2 := nw) (i3 := nx) (i4 := S) (i5 := O) (i6 := M) (i7 := C) (i8 := zi0) (i9 := zi1) (i10 := rc) (i11 := rp) (i12 := e5) (i13 := e6) hI k).1
    have hstep : ∀ s : Int32 × (Nat → Int32) × (Nat → Int32) × (Nat → Int32) × (Nat → Int32) × (Nat → Int32) × (Nat → Int32) × (Nat → Int32) × Int32 × Int32 × Int32 × Int32 × Nat × Nat, RI s.2.2.2.2.1 s.2.2.2.2.2.2.1 s.2.2.2.2.2.2.2.2.2.2.1 → (L1_X11_who1s cA pw w.p w.de w.mn (kx w) w.ta y k s.1 s.2.1 s.2.2.1 s.2.2.2.1 s.2.2.2.2.1 s.2.2.2.2.2.1 s.2.2.2.2.2.2.1 s.2.2.2.2.2.2.2.1 s.2.2.2.2.2.2.2.2.1 s.2.2.2.2.2.2.2.2.2.1 s.2.2.2.2.2.2.2.2.2.2.1 s.2.2.2.2.2.2.2.2.2.2.2.1 s.2.2.2.2.2.2.2.2.2.2.2.2.1 s.2.2.2.2.2.2.2.2.2.2.2.2.2).1 = @ite _ (BGw w (tN y) k) (Classical.propDecidable _) (s.1 ||| ((1 : Int32) <<< (nI k &&& 31))) s.1 := fun s hs => by
      have g := ch_main (p := w.p) (ni := tN y) (fi := k) (zd := w.de) (zt := TPw w (tN y)) (cA := L1_X7_prepare w.p w.mn (kx w) (tN y) cA 24) (ta := w.ta) (e5 := s.2.2.2.2.2.2.2.2.2.2.2.2.1) (e6 := s.2.2.2.2.2.2.2.2.2.2.2.2.2) (zi0 := s.2.2.2.2.2.2.2.2.1) (zi1 := s.2.2.2.2.2.2.2.2.2.1) (rp := s.2.2.2.2.2.2.2.2.2.2.2.1) (ct := s.2.1) (nw := s.2.2.1) (nx := s.2.2.2.1) (O := s.2.2.2.2.2.1) (C := s.2.2.2.2.2.2.2.1) hpt hp (by omega) (fun o ho => hta (tN y * 7 + o) (by omega)) (fun b hb q => ((tp_bit ok hb).mp q).1) hs (w.p + 1) 0 0 (by omega) (Nat.zero_le _) ⟨by decide, by decide⟩ (fun o ho => absurd ho (Nat.not_lt_zero _)) (fun o ho => absurd ho (Nat.not_lt_zero _))
      have g2 : ¬ (D1_X11_who1 cA pw w.p w.de w.mn (kx w) w.ta y k s.2.1 s.2.2.1 s.2.2.2.1 s.2.2.2.2.1 s.2.2.2.2.2.1 s.2.2.2.2.2.2.1 s.2.2.2.2.2.2.2.1 s.2.2.2.2.2.2.2.2.1 s.2.2.2.2.2.2.2.2.2.1 s.2.2.2.2.2.2.2.2.2.2.1 s.2.2.2.2.2.2.2.2.2.2.2.1 s.2.2.2.2.2.2.2.2.2.2.2.2.1 s.2.2.2.2.2.2.2.2.2.2.2.2.2).1 = 0 ↔ BGw w (tN y) k := Iff.trans (show _ ↔ _ from g) (and_congr Iff.rfl ⟨fun ⟨z, q⟩ => ⟨z, wrx_cong (fun h a a1 a2 a3 => pr_any hp a1 a2 a3) 24 (Nat.le_refl _) z q⟩, fun ⟨z, q⟩ => ⟨z, wrx_cong (fun h a a1 a2 a3 => pr_any hp a1 a2 a3) 24 (Nat.le_refl _) z q⟩⟩)
      unfold L1_X11_who1s
      by_cases c : BGw w (tN y) k
      · rw [if_neg (g2.mpr c), if_pos c]
      · rw [if_pos (Classical.byContradiction fun z => c (g2.mp z)), if_neg c]
    refine (show _ = _ from hstep _ hr).trans ?_
    rw [ih]
    rfl
theorem wo_cls {P Q : Nat} {zp zd zt zm zi0 zi1 y rc rp : Int32} {pw cA ct nw nx fS fO fM fC : Nat → Int32} (ok : VOK w) (hpt : PWT pw) (hta : TAw w) (hI : RI fS fM rc) : (F_X11_who1 P Q zp zd zt zm zi0 zi1 cA pw ct nw nx fS fO fM fC rc rp w.p w.de w.mu w.mn (kx w) w.ta y).1 = woA w y := by
  unfold F_X11_who1 woA
  by_cases c1 : F_X11_isNews y = 0
  · rw [if_pos c1, if_pos c1]
  · rw [if_neg c1, if_neg c1]
    exact wl_cls ok hpt hta (hn_at c1).2 hI w.p (Nat.le_refl _)
theorem wl_ref (ok : VOK w) (ow : OWB w) (hr : RP1 F i w) (hni : ni < 4) {c0 d0 : Nat → Int32} : ∀ k : Nat, k ≤ w.p → (L1_X12_who1 (F 8) (F 11) (F 12) (F 13) (F 14) (F 15) (F 16) (F 17) (F 61) w.lc w.p i ni 0 c0 d0 k).1 = whB (BGw w ni) k
  | 0, _ => rfl
  | k + 1, hk => by
    have hp := ok.1
    have ih := wl_ref ok ow hr hni (c0 := c0) (d0 := d0) k (by omega)
    have e : L1_X12_who1 (F 8) (F 11) (F 12) (F 13) (F 14) (F 15) (F 16) (F 17) (F 61) w.lc w.p i ni 0 c0 d0 (k + 1) = L1_X12_who1s (F 8) (F 11) (F 12) (F 13) (F 14) (F 15) (F 16) (F 17) (F 61) w.lc w.p i ni k (L1_X12_who1 (F 8) (F 11) (F 12) (F 13) (F 14) (F 15) (F 16) (F 17) (F 61) w.lc w.p i ni 0 c0 d0 k).1 (L1_X12_who1 (F 8) (F 11) (F 12) (F 13) (F 14) (F 15) (F 16) (F 17) (F 61) w.lc w.p i ni 0 c0 d0 k).2.1 (L1_X12_who1 (F 8) (F 11) (F 12) (F 13) (F 14) (F 15) (F 16) (F 17) (F 61) w.lc w.p i ni 0 c0 d0 k).2.2 := rfl
    rw [e]
    generalize L1_X12_who1 (F 8) (F 11) (F 12) (F 13) (F 14) (F 15) (F 16) (F 17) (F 61) w.lc w.p i ni 0 c0 d0 k = u at ih ⊢
    have hH : CHH w.p (TPw w ni) (cAw w ni) (F 11 (4 * i + ni)) (MCf (F 12) (F 13) (F 14) (F 15) (F 16) (F 17) w.lc i) := by
      rw [(hr.2.2.2.1 ni hni).2.2]
      exact chh_of (nw := ni) ok ow hr
    have eT : ∀ o : Nat, o < w.p → F_X12_taleOf (F 61) i ni o = TLw ni w.ta o := fun o ho => hr.2.2.2.2.2.2 ni o hni (by omega)
    have g := cb_ref (fi := k) (cN := u.2.1) (dN := u.2.2) (tA := F 61) (ni := ni) hp (by omega) hr.2.2.1 hH
    have hAT : ∀ (h : Nat) (x : Int32), ATo w.p (fun o => F_X12_taleOf (F 61) i ni o) h x ↔ ATo w.p (TLw ni w.ta) h x := fun h x => by
      constructor
      · intro q o ho ht
        have z := q o ho (by show ¬ F_X12_taleOf (F 61) i ni o = -1; rw [eT o ho]; exact ht)
        have z : bt x o = true ↔ ¬ nI h < F_X12_taleOf (F 61) i ni o := z
        rw [eT o ho] at z
        exact z
      · intro q o ho ht
        have ht : ¬ F_X12_taleOf (F 61) i ni o = -1 := ht
        show bt x o = true ↔ ¬ nI h < F_X12_taleOf (F 61) i ni o
        rw [eT o ho] at ht ⊢
        exact q o ho ht
    have hWR : ∀ (x0 : Int32) (h : Nat) (y : Int32), WRx w.p w.de (TPw w ni) (cAw w ni) (fun o => F_X12_taleOf (F 61) i ni o) x0 h y ↔ WRx w.p w.de (TPw w ni) (cAw w ni) (TLw ni w.ta) x0 h y := fun x0 h => by
      induction h with
      | zero => exact fun y => Iff.rfl
      | succ h ih =>
        intro y
        constructor
        · rintro ⟨x, r, a1, a2, a3, a4⟩
          exact ⟨x, r, (ih x).mp a1, a2, a3, (hAT _ _).mp a4⟩
        · rintro ⟨x, r, a1, a2, a3, a4⟩
          exact ⟨x, r, (ih x).mpr a1, a2, a3, (hAT _ _).mpr a4⟩
    have g2 : ¬ (F_X12_canBegin (F 8) (F 11) (F 12) (F 13) (F 14) (F 15) (F 16) (F 17) (F 61) u.2.1 u.2.2 w.lc w.p i ni k).1 = 0 ↔ BGw w ni k := g.trans (and_congr (hAT _ _) ⟨fun ⟨z, q⟩ => ⟨z, (hWR _ _ _).mp q⟩, fun ⟨z, q⟩ => ⟨z, (hWR _ _ _).mpr q⟩⟩)
    unfold L1_X12_who1s
    by_cases c : BGw w ni k
    · rw [if_neg (g2.mpr c), whB_y c, ← ih]
    · rw [if_pos (Classical.byContradiction fun z => c (g2.mp z)), whB_n c, ← ih]
      exact or_0r _
theorem wh_refM {c0 d0 : Nat → Int32} (ok : VOK w) (ow : OWB w) (hr : RP1 F i w) (hni : ni < 4) : (F_X12_who1 (F 8) (F 11) (F 12) (F 13) (F 14) (F 15) (F 16) (F 17) (F 61) c0 d0 w.lc w.p i ni).1 = woA w (nI ni) := by
  unfold F_X12_who1 woA
  rw [if_neg (show ¬ F_X11_isNews (nI ni) = 0 from news_ok hni), tN_nI (by omega)]
  exact wl_ref ok ow hr hni w.p (Nat.le_refl _)
end
theorem wh_bad {nv : Nat} {V : Nat → VV} {x y : Int32} (hnv : nv ≤ 10) (h : F_X12_isAsked nv x y = 0) : vAns nv V x (-1) (fun w => woA w y) = -1 := by
  rcases vin_cases (n := nv) (by omega) x with hb | ⟨i, hi, rfl⟩
  · rw [vAns_no hb]
  · rw [vAns_ok hnv hi]
    unfold woA
    by_cases c1 : F_X11_isNews y = 0
    · rw [if_pos c1]
    · exfalso
      unfold F_X12_isAsked at h
      rw [if_neg (rv_yes hnv hi), if_neg (show ¬ F_X12_isNews y = 0 from c1)] at h
      exact absurd h (by decide)
/-- tales as the heap's type says -/
theorem ta_tw {g : GG} {Γ : Nat → Nat} {H : Heap} {q : Nat} {f : Nat → Int32} (hT : HT g TS0 Γ H) (hq : Γ q = 29) (hA : AT g 1 28 q f H) : ∀ j : Nat, j < 28 → f j = -1 ∨ ∃ t : Nat, t ≤ 24 ∧ f j = nI t := fun j hj => by
  obtain ⟨f', h1, h2⟩ := h_ints (Or.inr (Or.inl rfl)) hT (by rw [hq]; decide) ((congrArg TS0.1 hq).trans rfl)
  have h3 := (AT_fun hA h1 hj).2
  obtain ⟨x, e, h4, h5⟩ := avi_int rfl (h2 j hj)
  rw [h3, Value.int.inj e]
  have h4 : (-1 : Int) ≤ x.toInt := h4
  have h5 : x.toInt ≤ (24 : Int) := h5
  by_cases c : x = -1
  · exact Or.inl c
  · refine Or.inr ?_
    have hne : ¬ x.toInt = -1 := fun q => c (Int32.toInt_inj.mp (q.trans (by decide)))
    have h0 : (0 : Int32) ≤ x := Int32.le_iff_toInt_le.mpr (by rw [show (0 : Int32).toInt = 0 from by decide]; omega)
    have h25 : x < nI 25 := Int32.lt_iff_toInt_lt.mpr (by rw [show (nI 25).toInt = 25 from by decide]; omega)
    obtain ⟨q1, q2⟩ := tN_in (n := 25) (by omega) h0 h25
    exact ⟨tN x, by omega, q1⟩
theorem wh0_val {nv : Nat} {x y : Int32} : F_X12_who0 nv x y = -1 := by
  unfold F_X12_who0
  split <;> rfl

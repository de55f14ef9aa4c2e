/-! who can have begun: the class's states, and that both sides come to the same -/
/-- the class's targets: whose tale is later and who would understand isn't called -/
abbrev tgW (zd zt la x : Int32) : Int32 := zt &&& ((la &&& F_X7_understands zd x) ^^^ (-1 : Int32))
def STw (p : Nat) (zd zt : Int32) (cA : Nat → Int32) (h : Nat) (du la x y : Int32) : Prop := du &&& (F_X7_understands zd x ^^^ (-1 : Int32)) = 0 ∧ ∃ C : Int32, SetOf p (chX cA x h (tgW zd zt la x)) C ∧ du &&& (C ^^^ (-1 : Int32)) = 0 ∧ y = F_X7_stateAfter zd x C
/-- where the class comes to -/
def WSx (p : Nat) (zd zt : Int32) (cA D L : Nat → Int32) (x0 : Int32) : Nat → Int32 → Prop
  | 0 => fun y => y = x0
  | h + 1 => fun y => ∃ x : Int32, WSx p zd zt cA D L x0 h x ∧ STw p zd zt cA (h + 1) (D (h + 1)) (L (h + 1)) x y
theorem chW_bit {cA : Nat → Int32} {z tg : Int32} {h a b : Nat} (ha : a < 32) (hb : b < 32) : bt (chX cA z h tg a) b = true ↔ bt (F_X7_knownIn z) a = true ∧ bt (cA (h * 7 + a)) b = true ∧ bt tg b = true ∧ bt (F_X7_knownIn z) b = false := by
  unfold chX
  by_cases q : hasv (F_X7_knownIn z) (nI a) = 0
  · rw [if_pos q, b_0]
    have e : bt (F_X7_knownIn z) a = false := (hvb_0 ha).mp q
    constructor
    · intro w; cases w
    · rintro ⟨w, -⟩
      rw [e] at w; cases w
  · rw [if_neg q, b_and, b_and, b_nt _ hb, Bool.and_eq_true, Bool.and_eq_true, Bool.not_eq_true']
    have e : bt (F_X7_knownIn z) a = true := (bt_hasv ha).mp q
    constructor
    · rintro ⟨⟨w1, w2⟩, w3⟩
      exact ⟨e, w1, w2, w3⟩
    · rintro ⟨-, w1, w2, w3⟩
      exact ⟨⟨w1, w2⟩, w3⟩
theorem rset_off : ∀ j : Nat, rset (fun _ => 7) j = 0
  | 0 => rfl
  | j + 1 => (if_pos rfl).trans (rset_off j)
theorem bw1 (kx ox kz oz C C2 d la : Bool) (h1 : kx = true → kz = true) (h2 : ox = true → kz = true ∨ oz = true) (h3 : C = true → kz = false → (la && (!d || oz)) = false → C2 = true) (h5 : (kx || (C && (!d || ox))) = true → la = false) : ((kx || (C && (!d || ox))) = true → (kz || (C2 && (!d || oz))) = true) ∧ (((ox || C) && !(kx || (C && (!d || ox)))) = true → (kz || (C2 && (!d || oz))) = true ∨ ((oz || C2) && !(kz || (C2 && (!d || oz)))) = true) := by
  revert h1 h2 h3 h5
  cases kx <;> cases ox <;> cases kz <;> cases oz <;> cases C <;> cases C2 <;> cases d <;> cases la <;> decide
/-- tales: none, or an hour -/
def TTw (p : Nat) (T : Nat → Int32) : Prop := ∀ o : Nat, o < p → T o = -1 ∨ ∃ t : Nat, t ≤ 24 ∧ T o = nI t
def DUP (p : Nat) (T D : Nat → Int32) : Prop := ∀ h : Nat, h ≤ 24 → ∀ o : Nat, o < 32 → (bt (D h) o = true ↔ o < p ∧ T o = nI h)
def LAP (p : Nat) (T L : Nat → Int32) : Prop := ∀ h : Nat, h ≤ 24 → ∀ o : Nat, o < 32 → (bt (L h) o = true ↔ o < p ∧ ¬ T o = -1 ∧ nI h < T o)
section
variable {p : Nat} {zd zt x0 : Int32} {cA T D L : Nat → Int32}
theorem ws_gs (hp : p ≤ 7) (h0 : GS x0) : ∀ (h : Nat) (y : Int32), WSx p zd zt cA D L x0 h y → GS y
  | 0, y, e => by
    have e : y = x0 := e
    rw [e]; exact h0
  | h + 1, y, hy => by
    obtain ⟨x, hx, -, C, hC, -, rfl⟩ := hy
    exact gs_after (ws_gs hp h0 h x hx) (hC.s7 hp)
theorem ws_wr (hp : p ≤ 7) (hT : TTw p T) (hD : DUP p T D) (hL : LAP p T L) (h0 : GS x0) (ha : ATo p T 0 (F_X7_knownIn x0)) : ∀ (h : Nat) (y : Int32), h ≤ 24 → WSx p zd zt cA D L x0 h y → WRx p zd zt cA T x0 h y ∧ ATo p T h (F_X7_knownIn y)
  | 0, y, _, e => by
    have e : y = x0 := e
    exact ⟨e, by rw [e]; exact ha⟩
  | h + 1, y, hh, hy => by
    obtain ⟨x, hx, hdu, C, hC, hdc, e⟩ := hy
    obtain ⟨i1, i2⟩ := ws_wr hp hT hD hL h0 ha h x (by omega) hx
    have hg := ws_gs hp h0 h x hx
    have hC7 := hC.s7 hp
    obtain ⟨r, r1, r2, r3⟩ := hC
    have hk : ATo p T (h + 1) (F_X7_knownIn y) := by
      intro o ho ht
      rw [e, kn_after hg hC7, b_or, b_and, Bool.or_eq_true, Bool.and_eq_true]
      have ho32 : o < 32 := by omega
      have ix := i2 o ho ht
      rcases hT o ho with z | ⟨t, t1, t2⟩
      · exact absurd z ht
      · have lt1 : nI h < T o ↔ h < t := by rw [t2]; exact nI_ltI (by omega) (by omega)
        have lt2 : nI (h + 1) < T o ↔ h + 1 < t := by rw [t2]; exact nI_ltI (by omega) (by omega)
        rw [lt1] at ix
        rw [lt2]
        constructor
        · rintro (q | ⟨q1, q2⟩)
          · have := ix.mp q
            omega
          · intro w
            have hla : bt (L (h + 1)) o = true := (hL (h + 1) hh o ho32).mpr ⟨ho, ht, lt2.mpr w⟩
            rw [← r3] at q1
            obtain ⟨a, a1, a2, a3⟩ := (rset_bit p (fun a ha => r1.le hp ha) o ho32).mp q1
            rcases r1 a a1 with z | ⟨z1, z2, -⟩
            · exact a3 z
            · have z3 := ((chW_bit (by omega) (by omega)).mp z2).2.2.1
              rw [a2] at z3
              have z4 : bt (tgW zd zt (L (h + 1)) x) o = (bt zt o && !(bt (L (h + 1)) o && bt (F_X7_understands zd x) o)) := by rw [b_and, b_nt _ ho32, b_and]
              rw [z4, hla, q2, Bool.and_self, Bool.not_true, Bool.and_false] at z3
              cases z3
        · intro w
          by_cases q : h < t
          · have e1 : T o = nI (h + 1) := by
              have : t = h + 1 := by omega
              rw [t2, this]
            have hd : bt (D (h + 1)) o = true := (hD (h + 1) hh o ho32).mpr ⟨ho, e1⟩
            exact Or.inr ⟨done_bits.mp hdc o ho32 hd, done_bits.mp hdu o ho32 hd⟩
          · exact Or.inl (ix.mpr q)
    refine ⟨⟨x, r, i1, fun a ha => ?_, by rw [r3]; exact e, hk⟩, hk⟩
    rcases r1 a ha with z | ⟨z1, z2, z3⟩
    · exact Or.inl z
    · obtain ⟨w1, w2, w3, w4⟩ := (chW_bit (by omega) (by omega)).mp z2
      rw [b_and, Bool.and_eq_true] at w3
      exact Or.inr ⟨z1, (chW_bit (by omega) (by omega)).mpr ⟨w1, w2, w3.1, w4⟩, z3⟩
theorem wr_ws (hp : p ≤ 7) (hT : TTw p T) (hD : DUP p T D) (hL : LAP p T L) (hzt : ∀ i : Nat, i < 32 → bt zt i = true → i < p) (h0 : GS x0) (ha : ATo p T 0 (F_X7_knownIn x0)) : ∀ (h : Nat) (y : Int32), h ≤ 24 → WRx p zd zt cA T x0 h y → (GS y ∧ ATo p T h (F_X7_knownIn y)) ∧ ∃ z : Int32, WSx p zd zt cA D L x0 h z ∧ LEs y z
  | 0, y, _, e => by
    have e : y = x0 := e
    rw [e]
    exact ⟨⟨h0, ha⟩, x0, rfl, fun _ _ q => q, fun _ _ q => Or.inr q⟩
  | h + 1, y, hh, hy => by
    obtain ⟨x, r, hx, hr, e, hk⟩ := hy
    obtain ⟨⟨gx, ax⟩, z, hz, hl⟩ := wr_ws hp hT hD hL hzt h0 ha h x (by omega) hx
    have gz := ws_gs hp h0 h z hz
    have az := (ws_wr hp hT hD hL h0 ha h z (by omega) hz).2
    have hle : ∀ a : Nat, a < p → r a ≤ 7 := fun a ha => hr.le hp ha
    have hC : s7 (rset r p) := rset_7 hle
    have gy : GS y := by rw [e]; exact gs_after gx hC
    refine ⟨⟨gy, hk⟩, ?_⟩
    have hun : ∀ (w : Int32) (o : Nat), o < 32 → bt (F_X7_understands zd w) o = (!bt zd o || bt (F_X7_onceIn w) o) := fun w o ho => by
      unfold F_X7_understands
      rw [b_or, b_nt _ ho]
    have hky : ∀ o : Nat, o < 32 → bt (F_X7_knownIn y) o = (bt (F_X7_knownIn x) o || (bt (rset r p) o && (!bt zd o || bt (F_X7_onceIn x) o))) := fun o ho => by
      rw [e, kn_after gx hC, b_or, b_and, hun x o ho]
    have hoy : ∀ o : Nat, o < 32 → bt (F_X7_onceIn y) o = ((bt (F_X7_onceIn x) o || bt (rset r p) o) && !(bt (F_X7_knownIn x) o || (bt (rset r p) o && (!bt zd o || bt (F_X7_onceIn x) o)))) := fun o ho => by
      rw [e, on_after gx hC, b_and, b_or, b_nt _ ho, b_or, b_and, hun x o ho]
    have hr1 : RWp p (chX cA z (h + 1) (tgW zd zt (L (h + 1)) z)) p (rcut (F_X7_knownIn z ||| (L (h + 1) &&& F_X7_understands zd z)) r) := fun a ha => by
      by_cases q : bt (F_X7_knownIn z ||| (L (h + 1) &&& F_X7_understands zd z)) (r a) = true
      · exact Or.inl (rcut_7 q)
      · rw [rcut_r q]
        rcases hr a ha with w | ⟨w1, w2, w3⟩
        · exact Or.inl w
        · refine Or.inr ⟨w1, ?_, fun b hb => ?_⟩
          · obtain ⟨y1, y2, y3, -⟩ := (chW_bit (by omega) (by omega)).mp w2
            rw [b_or, b_and, Bool.or_eq_true, Bool.and_eq_true] at q
            refine (chW_bit (by omega) (by omega)).mpr ⟨hl.1 a (by omega) y1, y2, ?_, ?_⟩
            · have z4 : bt (tgW zd zt (L (h + 1)) z) (r a) = (bt zt (r a) && !(bt (L (h + 1)) (r a) && bt (F_X7_understands zd z) (r a))) := by rw [b_and, b_nt _ (show r a < 32 by omega), b_and]
              rw [z4, y3]
              cases hla : bt (L (h + 1)) (r a) with
              | false => rfl
              | true =>
                cases hu : bt (F_X7_understands zd z) (r a) with
                | false => rfl
                | true => exact absurd (Or.inr ⟨hla, hu⟩) q
            · cases e2 : bt (F_X7_knownIn z) (r a) with
              | false => rfl
              | true => exact absurd (Or.inl e2) q
          · by_cases e2 : bt (F_X7_knownIn z ||| (L (h + 1) &&& F_X7_understands zd z)) (r b) = true
            · rw [rcut_7 e2]; omega
            · rw [rcut_r e2]; exact w3 b hb
    obtain ⟨r2, g1, g2, g3⟩ := ext_max hp (fun a b ha hb q => hzt b hb (by
      have w := ((chW_bit (by omega) hb).mp q).2.2.1
      rw [b_and, Bool.and_eq_true] at w
      exact w.1)) p _ hr1 (ctB_top p)
    have hC2 : s7 (rset r2 p) := rset_7 fun a ha => g1.le hp ha
    have hcc : ∀ o : Nat, o < 32 → bt (rset r p) o = true → bt (F_X7_knownIn z) o = false → (bt (L (h + 1)) o && (!bt zd o || bt (F_X7_onceIn z) o)) = false → bt (rset r2 p) o = true := fun o ho q1 q2 q3 => by
      refine g3 o ho ?_
      obtain ⟨a, a1, a2, a3⟩ := (rset_bit p hle o ho).mp q1
      have hne : ¬ bt (F_X7_knownIn z ||| (L (h + 1) &&& F_X7_understands zd z)) (r a) = true := by
        rw [a2, b_or, q2, b_and, Bool.false_or, hun z o ho, q3]
        exact fun w => by cases w
      exact (rset_bit p (fun a ha => hr1.le hp ha) o ho).mpr ⟨a, a1, by rw [rcut_r hne]; exact a2, by rw [rcut_r hne]; exact a3⟩
    have hla : ∀ o : Nat, o < 32 → bt (F_X7_knownIn y) o = true → bt (L (h + 1)) o = false := fun o ho q => by
      cases w : bt (L (h + 1)) o with
      | false => rfl
      | true =>
        obtain ⟨w1, w2, w3⟩ := (hL (h + 1) hh o ho).mp w
        exact absurd w3 ((hk o w1 w2).mp q)
    have hirr : ¬ nI (h + 1) < nI (h + 1) := fun w => by
      have := (nI_ltI (a := h + 1) (b := h + 1) (by omega) (by omega)).mp w
      omega
    have hdu : ∀ o : Nat, o < 32 → bt (D (h + 1)) o = true → bt (rset r p) o = true ∧ bt (F_X7_understands zd z) o = true ∧ bt (F_X7_knownIn z) o = false := fun o ho q => by
      obtain ⟨q1, q2⟩ := (hD (h + 1) hh o ho).mp q
      have hne : ¬ T o = -1 := fun w => by
        have := nI_ge0 (k := h + 1) (by omega)
        rw [← q2, w] at this
        exact absurd this (by decide)
      have hlt : nI h < T o := by rw [q2]; exact (nI_ltI (by omega) (by omega)).mpr (by omega)
      have kx0 : bt (F_X7_knownIn x) o = false := by
        cases w : bt (F_X7_knownIn x) o with
        | false => rfl
        | true => exact absurd hlt ((ax o q1 hne).mp w)
      have kz0 : bt (F_X7_knownIn z) o = false := by
        cases w : bt (F_X7_knownIn z) o with
        | false => rfl
        | true => exact absurd hlt ((az o q1 hne).mp w)
      have ky1 : bt (F_X7_knownIn y) o = true := (hk o q1 hne).mpr (by rw [q2]; exact hirr)
      rw [hky o ho, kx0, Bool.false_or, Bool.and_eq_true, Bool.or_eq_true] at ky1
      refine ⟨ky1.1, ?_, kz0⟩
      rw [hun z o ho, Bool.or_eq_true]
      rcases ky1.2 with w | w
      · exact Or.inl w
      · rcases hl.2 o ho w with v | v
        · rw [kz0] at v; cases v
        · exact Or.inr v
    have key := fun (o : Nat) (ho : o < 32) => bw1 (bt (F_X7_knownIn x) o) (bt (F_X7_onceIn x) o) (bt (F_X7_knownIn z) o) (bt (F_X7_onceIn z) o) (bt (rset r p) o) (bt (rset r2 p) o) (bt zd o) (bt (L (h + 1)) o) (hl.1 o ho) (hl.2 o ho) (hcc o ho) (fun w => hla o ho (by rw [hky o ho]; exact w))
    refine ⟨F_X7_stateAfter zd z (rset r2 p), ⟨z, hz, done_bits.mpr fun o ho q => (hdu o ho q).2.1, rset r2 p, ⟨r2, g1, g2, rfl⟩, done_bits.mpr fun o ho q => ?_, rfl⟩, fun o ho q => ?_, fun o ho q => ?_⟩
    · obtain ⟨q1, q2, q3⟩ := hdu o ho q
      refine hcc o ho q1 q3 ?_
      cases w : bt (L (h + 1)) o with
      | false => rfl
      | true =>
        have w3 := ((hL (h + 1) hh o ho).mp w).2.2
        rw [((hD (h + 1) hh o ho).mp q).2] at w3
        exact absurd w3 hirr
    · rw [hky o ho] at q
      rw [kn_after gz hC2, b_or, b_and, hun z o ho]
      exact (key o ho).1 q
    · rw [hoy o ho] at q
      have e1 : bt (F_X7_knownIn (F_X7_stateAfter zd z (rset r2 p))) o = (bt (F_X7_knownIn z) o || (bt (rset r2 p) o && (!bt zd o || bt (F_X7_onceIn z) o))) := by rw [kn_after gz hC2, b_or, b_and, hun z o ho]
      have e2 : bt (F_X7_onceIn (F_X7_stateAfter zd z (rset r2 p))) o = ((bt (F_X7_onceIn z) o || bt (rset r2 p) o) && !(bt (F_X7_knownIn z) o || (bt (rset r2 p) o && (!bt zd o || bt (F_X7_onceIn z) o)))) := by rw [on_after gz hC2, b_and, b_or, b_nt _ ho, b_or, b_and, hun z o ho]
      rw [e1, e2]
      exact (key o ho).2 q
theorem wr_on (hp : p ≤ 7) (hT : TTw p T) (hD : DUP p T D) (hL : LAP p T L) (hzt : ∀ i : Nat, i < 32 → bt zt i = true → i < p) (h0 : GS x0) (ha : ATo p T 0 (F_X7_knownIn x0)) {lt : Nat} (hm : ∀ o : Nat, o < p → ∀ t : Nat, t ≤ 24 → T o = nI t → t ≤ lt) : ∀ d : Nat, lt + d ≤ 24 → (∃ y : Int32, WRx p zd zt cA T x0 lt y) → ∃ y : Int32, WRx p zd zt cA T x0 (lt + d) y
  | 0, _, q => q
  | d + 1, hd, q => by
    obtain ⟨y, hy⟩ := wr_on hp hT hD hL hzt h0 ha hm d (by omega) q
    obtain ⟨⟨gy, ay⟩, -⟩ := wr_ws hp hT hD hL hzt h0 ha (lt + d) y (by omega) hy
    show ∃ y : Int32, WRx p zd zt cA T x0 (lt + d + 1) y
    refine ⟨F_X7_stateAfter zd y 0, y, fun _ => 7, hy, fun a _ => Or.inl rfl, by rw [rset_off], ?_⟩
    intro o ho ht
    rw [kn_after gy s7_0, b_or, b_and, b_0, Bool.false_and, Bool.or_false, ay o ho ht]
    rcases hT o ho with z | ⟨t, t1, t2⟩
    · exact absurd z ht
    · have := hm o ho t t1 t2
      rw [t2]
      constructor
      · intro _ w
        have := (nI_ltI (a := lt + d + 1) (b := t) (by omega) (by omega)).mp w
        omega
      · intro _ w
        have := (nI_ltI (a := lt + d) (b := t) (by omega) (by omega)).mp w
        omega
/-- both sides come to some state, or neither -/
theorem who_both (hp : p ≤ 7) (hT : TTw p T) (hD : DUP p T D) (hL : LAP p T L) (hzt : ∀ i : Nat, i < 32 → bt zt i = true → i < p) (h0 : GS x0) (ha : ATo p T 0 (F_X7_knownIn x0)) {lt : Nat} (hlt : lt ≤ 24) (hm : ∀ o : Nat, o < p → ∀ t : Nat, t ≤ 24 → T o = nI t → t ≤ lt) : (∃ y : Int32, WRx p zd zt cA T x0 24 y) ↔ ∃ y : Int32, WSx p zd zt cA D L x0 lt y := by
  constructor
  · intro q
    have e : lt + (24 - lt) = 24 := by omega
    obtain ⟨x, hx⟩ := wr_back (h := lt) (24 - lt) (by rw [e]; exact q)
    obtain ⟨-, z, hz, -⟩ := wr_ws hp hT hD hL hzt h0 ha lt x hlt hx
    exact ⟨z, hz⟩
  · rintro ⟨z, hz⟩
    have e : lt + (24 - lt) = 24 := by omega
    have q := wr_on hp hT hD hL hzt h0 ha hm (24 - lt) (by omega) ⟨z, (ws_wr hp hT hD hL h0 ha lt z hlt hz).1⟩
    rw [e] at q
    exact q
end

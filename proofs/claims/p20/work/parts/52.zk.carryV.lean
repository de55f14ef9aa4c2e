/-! news carried: both sides agree -/
theorem i64_and1 (z : Int64) : z &&& 1 = 0 ∨ z &&& 1 = 1 := by
  have one : ∀ i : Nat, i < 64 → ¬ i = 0 → (1 : Int64).toBitVec.getLsbD i = false := by decide +kernel
  cases h : z.toBitVec.getLsbD 0 with
  | false =>
    refine Or.inl (Int64.toBitVec_inj.mp (BitVec.eq_of_getLsbD_eq fun i hi => ?_))
    rw [Int64.toBitVec_and, BitVec.getLsbD_and]
    by_cases e : i = 0
    · subst e; rw [h]; rfl
    · rw [one i hi e, Bool.and_false]; exact BitVec.getLsbD_zero.symm
  | true =>
    refine Or.inr (Int64.toBitVec_inj.mp (BitVec.eq_of_getLsbD_eq fun i hi => ?_))
    rw [Int64.toBitVec_and, BitVec.getLsbD_and]
    by_cases e : i = 0
    · subst e; rw [h, Bool.true_and]
    · rw [one i hi e, Bool.and_false]
theorem isL_1 {lo : Int64} {t : Nat} : lg_cmp ((lo >>> ((nI t).toInt64 &&& 63)) &&& (1 : Int64)) 1 = 0 ↔ isL lo t := by
  show _ ↔ ¬ lg_cmp ((lo >>> ((nI t).toInt64 &&& 63)) &&& (1 : Int64)) 0 = 0
  rcases i64_and1 (lo >>> ((nI t).toInt64 &&& 63)) with e | e
  · rw [e]; decide
  · rw [e]; decide
theorem rc_callable {K : Nat → Int32} {w : PP} {t o : Nat} (h : bt (rcT K w t) o = true) : bt (K (tN (w.h t) * 7 + tN (w.a t))) o = true := by
  unfold rcT F_X10_callable at h
  rw [b_and, Bool.and_eq_true] at h
  exact h.2
theorem rc_in {v : VV} {w : PP} {t o : Nat} (ok : VOK v) (nl : NLP v) (hw : PWF v.p w) (ht : t < w.c) (ho : o < 32) (h : bt (rcT (kx v) w t) o = true) : o < v.p ∧ ¬ o = tN (w.a t) := by
  obtain ⟨r0, r1, r2⟩ := hn_of hw ht
  have hp := ok.1
  have ha := (hp_at (n := v.p) (by omega) (hw.2.2 t ht).2.2.1).2
  exact kx_in ok nl (show tN (w.a t) < 7 by omega) ho r1 r2 (rc_callable h)
theorem rc_one {K : Nat → Int32} {w : PP} {t : Nat} (h3 : ¬ w.k t = 3) (eb : w.b t = nI (tN (w.b t))) (hb : tN (w.b t) < 32) (hz : ¬ rcT K w t = 0) : ∀ o : Nat, o < 32 → (bt (rcT K w t) o = true ↔ o = tN (w.b t)) := by
  have e : ∀ o : Nat, o < 32 → bt (rcT K w t) o = true → o = tN (w.b t) := fun o ho h => by
    unfold rcT at h
    rw [if_neg h3, b_and, eb, b_sh1 hb ho, Bool.and_eq_true, decide_eq_true_eq] at h
    exact h.1
  refine fun o ho => ⟨e o ho, fun q => ?_⟩
  cases h : bt (rcT K w t) o with
  | true => rfl
  | false =>
    refine absurd (b_ext fun i hi => ?_) hz
    rw [b_0]
    cases h2 : bt (rcT K w t) i with
    | false => rfl
    | true =>
      rw [e i hi h2, ← q, h] at h2
      cases h2
theorem cok_of {v : VV} {w : PP} {R : Nat → Int32} {t : Nat} (ok : VOK v) (nl : NLP v) (hw : PWF v.p w) (ht : t < w.c) (hR : R t = rcT (kx v) w t) : CKO w R t := by
  have hp := ok.1
  obtain ⟨ea, ha⟩ := hp_at (n := v.p) (by omega) (hw.2.2 t ht).2.2.1
  refine ⟨ea, by omega, (hw.2.2 t ht).2.1, fun h3 => ?_, ?_⟩
  · obtain ⟨_, ⟨eb, hb⟩, hne⟩ := hc_at (n := v.p) (by omega) ((hw.2.2 t ht).2.2.2 h3)
    exact ⟨eb, by omega, fun q => hne (by rw [ea, eb, q])⟩
  · cases h : bt (R t) (tN (w.a t)) with
    | false => rfl
    | true =>
      rw [hR] at h
      exact absurd rfl (rc_in ok nl hw ht (by omega) h).2
theorem vd_0 {K : Nat → Int32} {w : PP} {t : Nat} (ha : tN (w.a t) < 32) (h : vdT K w t = 0) : ¬ rcT K w t = 0 ∧ bt (bz K w (hn w t) t) (tN (w.a t)) = false ∧ ∀ o : Nat, o < 32 → bt (rcT K w t) o = true → bt (bz K w (hn w t) t) o = false := by
  unfold vdT F_X4_verdictOf caT at h
  by_cases h1 : rcT K w t = 0
  · rw [if_pos h1] at h; exact absurd h (by decide)
  · rw [if_neg h1] at h
    by_cases h2 : hasv (bz K w (hn w t) t) (nI (tN (w.a t))) = 0
    · rw [if_pos h2] at h
      by_cases h3 : rcT K w t &&& bz K w (hn w t) t = 0
      · refine ⟨h1, (hvb_0 ha).mp h2, fun o ho q => ?_⟩
        have e : bt (rcT K w t &&& bz K w (hn w t) t) o = false := by rw [h3]; exact b_0 o
        rw [b_and, q, Bool.true_and] at e
        exact e
      · rw [if_neg h3] at h; exact absurd h (by decide)
    · rw [if_neg h2] at h; exact absurd h (by decide)
/-- what holds within an hour: of the class's people, of the reference's rows -/
def CIV (p : Nat) (de B : Int32) (s : CS) (fr tw A O : Nat → Int32) : Prop := (∀ x : Nat, x < p → s.1 x = A x ||| fr x) ∧ (∀ x : Nat, x < p → bt de x = true → s.2.1 x = (O x ||| tw x) &&& ((A x ||| fr x) ^^^ (-1 : Int32))) ∧ (∀ x : Nat, x < p → bt de x = false → s.2.1 x = 0) ∧ (∀ x : Nat, x < p → bt B x = false → fr x = 0 ∧ tw x = 0) ∧ (∀ x : Nat, x < 7 → s.2.1 x &&& s.1 x = 0)
theorem CIV.kn {p : Nat} {de B : Int32} {s : CS} {fr tw A O : Nat → Int32} (h : CIV p de B s fr tw A O) : ∀ x : Nat, x < p → s.1 x = A x ||| fr x := h.1
theorem CIV.td {p : Nat} {de B : Int32} {s : CS} {fr tw A O : Nat → Int32} (h : CIV p de B s fr tw A O) : ∀ x : Nat, x < p → bt de x = true → s.2.1 x = (O x ||| tw x) &&& ((A x ||| fr x) ^^^ (-1 : Int32)) := h.2.1
theorem CIV.tn {p : Nat} {de B : Int32} {s : CS} {fr tw A O : Nat → Int32} (h : CIV p de B s fr tw A O) : ∀ x : Nat, x < p → bt de x = false → s.2.1 x = 0 := h.2.2.1
theorem CIV.out {p : Nat} {de B : Int32} {s : CS} {fr tw A O : Nat → Int32} (h : CIV p de B s fr tw A O) : ∀ x : Nat, x < p → bt B x = false → fr x = 0 ∧ tw x = 0 := h.2.2.2.1
theorem CIV.inv {p : Nat} {de B : Int32} {s : CS} {fr tw A O : Nat → Int32} (h : CIV p de B s fr tw A O) : ∀ x : Nat, x < 7 → s.2.1 x &&& s.1 x = 0 := h.2.2.2.2
theorem CIV.mono {p : Nat} {de B B' : Int32} {s : CS} {fr tw A O : Nat → Int32} (h : CIV p de B s fr tw A O) (hB : ∀ x : Nat, x < p → bt B' x = false → bt B x = false) : CIV p de B' s fr tw A O := ⟨h.kn, h.td, h.tn, fun x hx q => h.out x hx (hB x hx q), h.inv⟩
theorem id_kn {d : Bool} {A O T N : Int32} (h : d = true → T = (O ||| 0) &&& ((A ||| 0) ^^^ (-1 : Int32))) : tlK d A T N = A ||| rtF d A O 0 0 N := by
  unfold tlK rtF
  cases d with
  | false => rw [cond_false, cond_false]; exact b_ext fun i hi => by simp only [b_or, b_0, Bool.false_or]
  | true =>
    rw [h rfl, cond_true, cond_true]
    refine b_ext fun i hi => ?_
    simp only [b_or, b_and, b_0, b_hrd _ _ hi, b_nt _ hi, Bool.or_false, Bool.false_or]
    cases bt A i <;> cases bt N i <;> cases bt O i <;> rfl
theorem id_td {A O T N : Int32} (h : T = (O ||| 0) &&& ((A ||| 0) ^^^ (-1 : Int32))) : tlT true A T N = (O ||| rtT true A 0 N) &&& ((A ||| rtF true A O 0 0 N) ^^^ (-1 : Int32)) := by
  unfold tlT
  rw [id_kn (O := O) (fun _ => h), h]
  unfold rtF rtT
  rw [cond_true, cond_true]
  refine b_ext fun i hi => ?_
  simp only [b_or, b_and, b_0, b_hrd _ _ hi, b_nt _ hi, Bool.or_false, Bool.false_or]
  cases bt A i <;> cases bt N i <;> cases bt O i <;> rfl
theorem id_tn {A N : Int32} : tlT false A 0 N = 0 := by
  unfold tlT tlK
  rw [cond_false]
  refine b_ext fun i hi => ?_
  simp only [b_or, b_and, b_0, b_hrd _ _ hi, b_nt _ hi, Bool.or_false, Bool.false_or]
  cases bt A i <;> cases bt N i <;> rfl
theorem nwT_in {w : PP} {R k8 kN : Nat → Int32} {wo : Int32} {t x : Nat} (hx : x < 32) (hR : ¬ w.k t = 3 → ∀ o : Nat, o < 32 → (bt (R t) o = true ↔ o = tN (w.b t))) (h : ¬ nwT w (R t) k8 wo kN t x = 0) : x = tN (w.a t) ∨ bt (R t) x = true := by
  by_cases e1 : x = tN (w.a t)
  · exact Or.inl e1
  · cases e2 : bt (R t) x with
    | true => exact Or.inr rfl
    | false =>
      refine absurd ?_ h
      unfold nwT
      by_cases k0 : w.a t = wo
      · rw [if_pos k0]
      · rw [if_neg k0]
        by_cases k3 : w.k t = 3
        · rw [if_pos k3, if_neg (fun q => by have h := q.1; rw [e2] at h; cases h)]
        · rw [if_neg k3]
          by_cases kb : w.b t = wo
          · rw [if_pos kb]
          · rw [if_neg kb, if_neg (fun q => by rw [(hR k3 x hx).mpr q] at e2; cases e2), if_neg e1]
theorem civ_call {p t : Nat} {de B wo : Int32} {s : CS} {u : Int64} {fr tw A O R k8 k8' K' T' fr' tw' : Nat → Int32} {w : PP} (h : CIV p de B s fr tw A O) (hp : p ≤ 7) (c : CKO w R t) (hap : tN (w.a t) < p) (hin : ∀ o : Nat, o < 32 → bt (R t) o = true → o < p) (hR : ¬ w.k t = 3 → ∀ o : Nat, o < 32 → (bt (R t) o = true ↔ o = tN (w.b t))) (f1 : bt B (tN (w.a t)) = false) (f2 : ∀ o : Nat, o < 32 → bt (R t) o = true → bt B o = false) (h8 : ∀ x : Nat, x < p → k8 x = k8' x)
    (hK : ∀ x : Nat, x < 7 → K' x = tlK (bt de x) (s.1 x) (s.2.1 x) (nwT w (R t) k8 wo s.1 t x)) (hT : ∀ x : Nat, x < 7 → T' x = tlT (bt de x) (s.1 x) (s.2.1 x) (nwT w (R t) k8 wo s.1 t x))
    (hF : ∀ x : Nat, x < 7 → fr' x = rtF (bt de x) (A x) (O x) (tw x) (fr x) (nwT w (R t) k8' wo A t x)) (hG : ∀ x : Nat, x < 7 → tw' x = rtT (bt de x) (A x) (tw x) (nwT w (R t) k8' wo A t x)) : CIV p de (B ||| (((1 : Int32) <<< (nI (tN (w.a t)) &&& 31)) ||| R t)) (K', T', u) fr' tw' A O := by
  have ca : s.1 (tN (w.a t)) = A (tN (w.a t)) := by rw [h.kn _ hap, (h.out _ hap f1).1, or_0]
  have cb : ¬ w.k t = 3 → s.1 (tN (w.b t)) = A (tN (w.b t)) := fun k3 => by
    have hb := (c.hb k3).2.1
    have q := (hR k3 _ (by omega)).mpr rfl
    have hbp := hin _ (by omega) q
    rw [h.kn _ hbp, (h.out _ hbp (f2 _ (by omega) q)).1, or_0]
  have nw : ∀ x : Nat, x < p → nwT w (R t) k8 wo s.1 t x = nwT w (R t) k8' wo A t x := fun x hx => by
    unfold nwT
    by_cases k3 : w.k t = 3
    · simp only [if_pos k3, ca]
    · simp only [if_neg k3]
      rw [ca, cb k3, h8 x hx]
  have B1 : ∀ x : Nat, x < p → bt (B ||| (((1 : Int32) <<< (nI (tN (w.a t)) &&& 31)) ||| R t)) x = false → bt B x = false ∧ ¬ x = tN (w.a t) ∧ bt (R t) x = false := fun x hx q => by
    rw [b_or, b_or, b_sh1 (by omega) (by omega), Bool.or_eq_false_iff, Bool.or_eq_false_iff, decide_eq_false_iff_not] at q
    exact q
  have off : ∀ x : Nat, x < p → nwT w (R t) k8' wo A t x = 0 → K' x = s.1 x ∧ T' x = s.2.1 x ∧ fr' x = fr x ∧ tw' x = tw x := fun x hx z => by
    have hx7 : x < 7 := by omega
    rw [hK x hx7, hT x hx7, hF x hx7, hG x hx7, nw x hx, z, tlK_0, tlT_0 (h.inv x hx7), rtF_0, rtT_0]
    exact ⟨rfl, rfl, rfl, rfl⟩
  have on : ∀ x : Nat, x < p → ¬ nwT w (R t) k8' wo A t x = 0 → fr x = 0 ∧ tw x = 0 ∧ s.1 x = A x := fun x hx z => by
    have q : bt B x = false := by
      rcases nwT_in (by omega) hR z with e | e
      · rw [e]; exact f1
      · exact f2 x (by omega) e
    obtain ⟨a, b⟩ := h.out x hx q
    exact ⟨a, b, by rw [h.kn x hx, a, or_0]⟩
  refine ⟨fun x hx => ?_, fun x hx hd => ?_, fun x hx hd => ?_, fun x hx q => ?_, fun x hx => ?_⟩
  · by_cases z : nwT w (R t) k8' wo A t x = 0
    · obtain ⟨a, _, b, _⟩ := off x hx z
      show K' x = _
      rw [a, b]; exact h.kn x hx
    · obtain ⟨a, b, d⟩ := on x hx z
      have td := fun hd : bt de x = true => h.td x hx hd
      show K' x = _
      rw [a, b] at td
      rw [hK x (by omega), hF x (by omega), nw x hx, a, b, d]
      exact id_kn td
  · have td := h.td x hx hd
    by_cases z : nwT w (R t) k8' wo A t x = 0
    · obtain ⟨_, a, b, e⟩ := off x hx z
      show T' x = _
      rw [a, b, e]; exact td
    · obtain ⟨a, b, d⟩ := on x hx z
      show T' x = _
      rw [a, b] at td
      rw [hT x (by omega), hF x (by omega), hG x (by omega), nw x hx, a, b, d, hd]
      exact id_td td
  · have tn := h.tn x hx hd
    show T' x = 0
    by_cases z : nwT w (R t) k8' wo A t x = 0
    · rw [(off x hx z).2.1]; exact tn
    · rw [hT x (by omega), nw x hx, (on x hx z).2.2, tn, hd]
      exact id_tn
  · obtain ⟨q1, q2, q3⟩ := B1 x hx q
    by_cases z : nwT w (R t) k8' wo A t x = 0
    · obtain ⟨_, _, a, b⟩ := off x hx z
      rw [a, b]; exact h.out x hx q1
    · rcases nwT_in (by omega) hR z with e | e
      · exact absurd e q2
      · rw [q3] at e; cases e
  · show T' x &&& K' x = 0
    rw [hK x hx, hT x hx]
    exact tlT_k
/-! hour by hour -/
section
variable {G23 G24 G25 rD rS k8 : Nat → Int32} {i v9 : Nat} {lo : Int64} {wo : Int32} {v : VV} {w : PP} {W R W' R' : Nat → Int32}
/-- the plan, and what was judged, in the reference's rows -/
def PRW4 (G23 G24 G25 : Nat → Int32) (i : Nat) (w : PP) : Prop := ∀ k : Nat, k < w.c → G23 (40 * i + k) = w.h k ∧ G24 (40 * i + k) = w.k k ∧ G25 (40 * i + k) = w.a k
def JD (v : VV) (w : PP) (W R : Nat → Int32) : Prop := ∀ t : Nat, t < w.c → W t = vdT (kx v) w t ∧ R t = rcT (kx v) w t
theorem hour_at {j : Nat} {s : CS} {fr tw aF oN : Nat → Int32} (ok : VOK v) (nl : NLP v) (hw : PWF v.p w) (hJ : JD v w W R) (hJ' : JD v w W' R') (g : PRW4 G23 G24 G25 i w) (hD : rD v9 = v.de) (h8 : ∀ x : Nat, x < v.p → k8 x = F_X12_notFor rS v9 x) (hj : j < 24) (h0 : CIV v.p v.de 0 s fr tw (hw7 aF j) (hw7 oN j)) : ∀ m : Nat, m ≤ w.c → CIV v.p v.de (bz (kx v) w (j + 1) m) (hin (cStep v.de lo wo w W R k8) (hn w) (j + 1) m s) (L4_X12_carry rD rS G23 G24 G25 W' R' v.p i v9 lo wo j aF oN fr tw m).1 (L4_X12_carry rD rS G23 G24 G25 W' R' v.p i v9 lo wo j aF oN fr tw m).2 (hw7 aF j) (hw7 oN j)
  | 0, _ => h0
  | m + 1, hm => by
    have ih := hour_at ok nl hw hJ hJ' g hD h8 hj h0 m (by omega)
    have hp := ok.1
    have ht : m < w.c := by omega
    obtain ⟨g1, g2, g3⟩ := g m ht
    obtain ⟨r0, r1, r2⟩ := hn_of hw ht
    have e : L4_X12_carry rD rS G23 G24 G25 W' R' v.p i v9 lo wo j aF oN fr tw (m + 1) = L4_X12_carrys rD rS G23 G24 G25 W' R' v.p i v9 lo wo j aF oN m (L4_X12_carry rD rS G23 G24 G25 W' R' v.p i v9 lo wo j aF oN fr tw m).1 (L4_X12_carry rD rS G23 G24 G25 W' R' v.p i v9 lo wo j aF oN fr tw m).2 := rfl
    rw [e, hin, bz]
    generalize L4_X12_carry rD rS G23 G24 G25 W' R' v.p i v9 lo wo j aF oN fr tw m = q at ih
    generalize hin (cStep v.de lo wo w W R k8) (hn w) (j + 1) m s = u at ih
    unfold L4_X12_carrys
    rw [g1]
    have eh : w.h m = nI (j + 1) ↔ hn w m = j + 1 := by rw [r0]; exact nI_eq (by omega) (by omega)
    by_cases c1 : hn w m = j + 1
    · rw [if_pos c1, if_pos c1, if_pos (eh.mpr c1)]
      have evd : F_X4_verdictOf (caT w m) (rcT (kx v) w m) (bz (kx v) w (j + 1) m) = vdT (kx v) w m := by unfold vdT; rw [c1]
      rw [evd, (hJ' m ht).1]
      unfold cStep
      rw [(hJ m ht).1]
      by_cases c2 : vdT (kx v) w m = 0
      · rw [if_pos c2, if_pos c2, if_pos c2]
        have c := cok_of ok nl hw ht (hJ m ht).2
        have ha := (hp_at (n := v.p) (by omega) (hw.2.2 m ht).2.2.1).2
        obtain ⟨z1, z2, z3⟩ := vd_0 (by omega) c2
        rw [c1] at z2 z3
        have eR' : R' m = R m := by rw [(hJ m ht).2, (hJ' m ht).2]
        have hin_ : ∀ o : Nat, o < 32 → bt (R m) o = true → o < v.p := fun o ho h => by rw [(hJ m ht).2] at h; exact (rc_in ok nl hw ht ho h).1
        have hR : ¬ w.k m = 3 → ∀ o : Nat, o < 32 → (bt (R m) o = true ↔ o = tN (w.b m)) := fun h3 => by
          rw [(hJ m ht).2]
          exact rc_one h3 (c.hb h3).1 (by have := (c.hb h3).2.1; omega) z1
        by_cases c3 : isL lo m
        · rw [if_pos c3, if_pos (isL_1.mpr c3)]
          refine ih.mono fun x hx h => ?_
          rw [b_or, Bool.or_eq_false_iff] at h
          exact h.1
        · rw [if_neg c3, if_neg (fun h => c3 (isL_1.mp h)), ← (hJ m ht).2]
          have key : ∀ fr' tw' : Nat → Int32, (∀ x : Nat, x < 7 → fr' x = rtF (bt v.de x) (hw7 aF j x) (hw7 oN j x) (q.2 x) (q.1 x) (nwT w (R m) (fun x => F_X12_notFor rS v9 x) wo (hw7 aF j) m x)) → (∀ x : Nat, x < 7 → tw' x = rtT (bt v.de x) (hw7 aF j x) (q.2 x) (nwT w (R m) (fun x => F_X12_notFor rS v9 x) wo (hw7 aF j) m x)) → CIV v.p v.de (bz (kx v) w (j + 1) m ||| (((1 : Int32) <<< (caT w m &&& 31)) ||| R m)) (cS v.de wo w R k8 m u) fr' tw' (hw7 aF j) (hw7 oN j) := fun fr' tw' h1 h2 =>
            civ_call ih hp c ha hin_ hR z2 (fun o ho h => z3 o ho (by rw [← (hJ m ht).2]; exact h)) h8 (fun x hx => (call_at c ih.inv x hx).1) (fun x hx => (call_at c ih.inv x hx).2) h1 h2
          rw [g3]
          by_cases c4 : w.a m = wo
          · rw [if_pos c4]
            have z : ∀ x : Nat, nwT w (R m) (fun x => F_X12_notFor rS v9 x) wo (hw7 aF j) m x = 0 := fun x => if_pos c4
            exact key _ _ (fun x _ => by rw [z, rtF_0]) (fun x _ => by rw [z, rtT_0])
          · rw [if_neg c4]
            have h6 := L6_at (rD := rD) (rS := rS) (aF := aF) (oN := oN) (v9 := v9) (j := j) (wo := wo) (G24 := G24) (G25 := G25) (i := i) (R := R') (p := v.p) (by have := c; exact ⟨c.ea, c.ha, c.hk, c.hb, by rw [eR']; exact c.hr⟩) g2 g3 hp (by rw [eR']; exact hin_) (by rw [eR']; exact hR) c4 q.1 q.2
            rw [eR', hD] at h6
            exact key _ _ (fun x hx => (h6 x hx).1) (fun x hx => (h6 x hx).2)
      · rw [if_neg c2, if_neg c2, if_neg c2]
        exact ih
    · rw [if_neg c1, if_neg c1, if_neg (fun h => c1 (eh.mp h))]
      exact ih
theorem L3_at {f g : Nat → Int32} : ∀ (m x : Nat), x < m → (L3_X12_carry f g m).1 x = 0 ∧ (L3_X12_carry f g m).2 x = 0
  | 0, x, h => absurd h (Nat.not_lt_zero _)
  | m + 1, x, h => by
    show upd (L3_X12_carry f g m).1 m 0 x = 0 ∧ upd (L3_X12_carry f g m).2 m 0 x = 0
    by_cases e : x = m
    · subst e; rw [upd_eq, upd_eq]; exact ⟨rfl, rfl⟩
    · rw [upd_ne e, upd_ne e]; exact L3_at m x (by omega)
theorem L5_at {cn j : Nat} {aF oN fR tW : Nat → Int32} : ∀ m : Nat, m ≤ 7 → (∀ y : Nat, y < 7 * (j + 1) → (L5_X12_carry rD rS G23 G24 G25 W' R' v.p i v9 cn lo wo j aF oN fR tW aF oN m).1 y = aF y ∧ (L5_X12_carry rD rS G23 G24 G25 W' R' v.p i v9 cn lo wo j aF oN fR tW aF oN m).2 y = oN y) ∧ ∀ x : Nat, x < m → (L5_X12_carry rD rS G23 G24 G25 W' R' v.p i v9 cn lo wo j aF oN fR tW aF oN m).1 (7 * (j + 1) + x) = aF (7 * j + x) ||| (L4_X12_carry rD rS G23 G24 G25 W' R' v.p i v9 lo wo j aF oN (L3_X12_carry fR tW v.p).1 (L3_X12_carry fR tW v.p).2 cn).1 x ∧ (L5_X12_carry rD rS G23 G24 G25 W' R' v.p i v9 cn lo wo j aF oN fR tW aF oN m).2 (7 * (j + 1) + x) = oN (7 * j + x) ||| (L4_X12_carry rD rS G23 G24 G25 W' R' v.p i v9 lo wo j aF oN (L3_X12_carry fR tW v.p).1 (L3_X12_carry fR tW v.p).2 cn).2 x
  | 0, _ => ⟨fun y _ => ⟨rfl, rfl⟩, fun x h => absurd h (Nat.not_lt_zero _)⟩
  | m + 1, hm => by
    obtain ⟨ih1, ih2⟩ := L5_at (cn := cn) (j := j) (aF := aF) (oN := oN) (fR := fR) (tW := tW) m (by omega)
    have e : L5_X12_carry rD rS G23 G24 G25 W' R' v.p i v9 cn lo wo j aF oN fR tW aF oN (m + 1) = L5_X12_carrys rD rS G23 G24 G25 W' R' v.p i v9 cn lo wo j aF oN fR tW m (L5_X12_carry rD rS G23 G24 G25 W' R' v.p i v9 cn lo wo j aF oN fR tW aF oN m).1 (L5_X12_carry rD rS G23 G24 G25 W' R' v.p i v9 cn lo wo j aF oN fR tW aF oN m).2 := rfl
    rw [e]
    generalize L5_X12_carry rD rS G23 G24 G25 W' R' v.p i v9 cn lo wo j aF oN fR tW aF oN m = q at ih1 ih2
    unfold L5_X12_carrys
    rw [Nat.add_sub_cancel]
    refine ⟨fun y hy => ?_, fun x hx => ?_⟩
    · show upd _ _ _ y = _ ∧ upd _ _ _ y = _
      rw [upd_ne (by omega), upd_ne (by omega)]
      exact ih1 y hy
    · show upd _ _ _ _ = _ ∧ upd _ _ _ _ = _
      by_cases e : x = m
      · subst e
        rw [upd_eq, upd_eq, (ih1 _ (show 7 * j + x < 7 * (j + 1) by omega)).1, (ih1 _ (show 7 * j + x < 7 * (j + 1) by omega)).2]
        exact ⟨rfl, rfl⟩
      · rw [upd_ne (by omega), upd_ne (by omega)]
        exact ih2 x (by omega)
theorem hin_none {f : Nat → CS → CS} {h : Nat → Nat} {H : Nat} {s : CS} : ∀ m : Nat, (∀ t : Nat, t < m → ¬ h t = H) → hin f h H m s = s
  | 0, _ => rfl
  | m + 1, hh => by
    rw [hin, if_neg (hh m (Nat.lt_succ_self _))]
    exact hin_none m fun t ht => hh t (by omega)
/-- after so many hours -/
def HIV (v : VV) (k : Nat) (C : Nat → CS) (aF oN : Nat → Int32) : Prop := (∀ j : Nat, j ≤ k → ∀ x : Nat, x < v.p → (C (j + 1)).1 x = aF (7 * j + x)) ∧ (∀ x : Nat, x < v.p → bt v.de x = true → (C (k + 1)).2.1 x = oN (7 * k + x) &&& (aF (7 * k + x) ^^^ (-1 : Int32))) ∧ (∀ x : Nat, x < v.p → bt v.de x = false → (C (k + 1)).2.1 x = 0) ∧ (∀ x : Nat, x < 7 → (C (k + 1)).2.1 x &&& (C (k + 1)).1 x = 0)
theorem HIV.kn {v : VV} {k : Nat} {C : Nat → CS} {aF oN : Nat → Int32} (h : HIV v k C aF oN) : ∀ j : Nat, j ≤ k → ∀ x : Nat, x < v.p → (C (j + 1)).1 x = aF (7 * j + x) := h.1
theorem HIV.td {v : VV} {k : Nat} {C : Nat → CS} {aF oN : Nat → Int32} (h : HIV v k C aF oN) : ∀ x : Nat, x < v.p → bt v.de x = true → (C (k + 1)).2.1 x = oN (7 * k + x) &&& (aF (7 * k + x) ^^^ (-1 : Int32)) := h.2.1
theorem HIV.tn {v : VV} {k : Nat} {C : Nat → CS} {aF oN : Nat → Int32} (h : HIV v k C aF oN) : ∀ x : Nat, x < v.p → bt v.de x = false → (C (k + 1)).2.1 x = 0 := h.2.2.1
theorem HIV.inv {v : VV} {k : Nat} {C : Nat → CS} {aF oN : Nat → Int32} (h : HIV v k C aF oN) : ∀ x : Nat, x < 7 → (C (k + 1)).2.1 x &&& (C (k + 1)).1 x = 0 := h.2.2.2
theorem hours_at {C0 : CS} {aF oN fR tW : Nat → Int32} (ok : VOK v) (nl : NLP v) (hw : PWF v.p w) (hJ : JD v w W R) (hJ' : JD v w W' R') (g : PRW4 G23 G24 G25 i w) (hD : rD v9 = v.de) (h8 : ∀ x : Nat, x < v.p → k8 x = F_X12_notFor rS v9 x) (h0 : HIV v 0 (fun z => hrs (cStep v.de lo wo w W R k8) (hn w) w.c z C0) aF oN) : ∀ k : Nat, k ≤ 24 → HIV v k (fun z => hrs (cStep v.de lo wo w W R k8) (hn w) w.c z C0) (L2_X12_carry rD rS G23 G24 G25 W' R' v.p i v9 w.c lo wo aF oN fR tW k).1 (L2_X12_carry rD rS G23 G24 G25 W' R' v.p i v9 w.c lo wo aF oN fR tW k).2.1
  | 0, _ => h0
  | k + 1, hk => by
    have ih := hours_at (fR := fR) (tW := tW) ok nl hw hJ hJ' g hD h8 h0 k (by omega)
    have hp := ok.1
    have e : L2_X12_carry rD rS G23 G24 G25 W' R' v.p i v9 w.c lo wo aF oN fR tW (k + 1) = L2_X12_carrys rD rS G23 G24 G25 W' R' v.p i v9 w.c lo wo k (L2_X12_carry rD rS G23 G24 G25 W' R' v.p i v9 w.c lo wo aF oN fR tW k).1 (L2_X12_carry rD rS G23 G24 G25 W' R' v.p i v9 w.c lo wo aF oN fR tW k).2.1 (L2_X12_carry rD rS G23 G24 G25 W' R' v.p i v9 w.c lo wo aF oN fR tW k).2.2.1 (L2_X12_carry rD rS G23 G24 G25 W' R' v.p i v9 w.c lo wo aF oN fR tW k).2.2.2 := rfl
    rw [e]
    generalize L2_X12_carry rD rS G23 G24 G25 W' R' v.p i v9 w.c lo wo aF oN fR tW k = q at ih
    unfold L2_X12_carrys
    dsimp only
    obtain ⟨l1, l2⟩ := L5_at (rD := rD) (rS := rS) (G23 := G23) (G24 := G24) (G25 := G25) (i := i) (v9 := v9) (lo := lo) (wo := wo) (v := v) (W' := W') (R' := R') (cn := w.c) (j := k) (aF := q.1) (oN := q.2.1) (fR := q.2.2.1) (tW := q.2.2.2) v.p hp
    have s0 : CIV v.p v.de 0 (hrs (cStep v.de lo wo w W R k8) (hn w) w.c (k + 1) C0) (L3_X12_carry q.2.2.1 q.2.2.2 v.p).1 (L3_X12_carry q.2.2.1 q.2.2.2 v.p).2 (hw7 q.1 k) (hw7 q.2.1 k) := by
      refine ⟨fun x hx => ?_, fun x hx hd => ?_, ih.tn, fun x hx _ => L3_at v.p x hx, ih.inv⟩
      · rw [(L3_at v.p x hx).1, or_0]; exact ih.kn k (Nat.le_refl _) x hx
      · rw [(L3_at v.p x hx).1, (L3_at v.p x hx).2, or_0, or_0]; exact ih.td x hx hd
    have h := hour_at (lo := lo) (wo := wo) ok nl hw hJ hJ' g hD h8 (show k < 24 by omega) s0 w.c (Nat.le_refl _)
    refine ⟨fun j hj x hx => ?_, fun x hx hd => ?_, fun x hx hd => h.tn x hx hd, h.inv⟩
    · by_cases e : j = k + 1
      · subst e
        rw [(l2 x hx).1]
        exact h.kn x hx
      · rw [(l1 (7 * j + x) (by omega)).1]
        exact ih.kn j (by omega) x hx
    · rw [(l2 x hx).1, (l2 x hx).2]
      exact h.td x hx hd
/-- the reference's first rows -/
theorem nwk_eq {rK kn : Nat → Int32} {x : Nat} (hx : x < 32) (h : ∀ j : Nat, j < 4 → rK (4 * v9 + j) = kn j) : ∀ m : Nat, m ≤ 4 → L7_X12_carry rK v9 x 0 m = L1_X10_newsOfOne kn (nI x) 0 m
  | 0, _ => rfl
  | m + 1, hm => by
    have ih := nwk_eq hx h m (by omega)
    show L7_X12_carry rK v9 x 0 m ||| ((((rK (4 * v9 + m)) >>> ((nI x) &&& 31)) &&& (1 : Int32)) <<< ((nI m) &&& 31)) = L1_X10_newsOfOnes kn (nI x) m (L1_X10_newsOfOne kn (nI x) 0 m)
    unfold L1_X10_newsOfOnes
    rw [ih, h m (by omega)]
    by_cases c : hasv (kn m) (nI x) = 0
    · rw [if_pos c, (shr_0 hx).mpr ((hvb_0 hx).mp c)]
      refine b_ext fun i hi => ?_
      rw [b_or, b_shl m (by omega) 0 hi, b_0, Bool.and_false, Bool.or_false]
    · rw [if_neg c]
      have e : (kn m >>> (nI x &&& 31)) &&& (1 : Int32) = 1 := by
        refine b_ext fun i hi => ?_
        rw [b_and, b_one i hi]
        by_cases e : i = 0
        · subst e
          rw [b_sshr x hx (kn m) (by omega), if_pos (by omega), Nat.add_zero, (bt_hasv hx).mp c]; rfl
        · rw [decide_eq_false e, Bool.and_false]
      rw [e]
theorem notFor_eq {mn : Nat → Int32} {x : Nat} (hx : x < 32) (h : ∀ j : Nat, j < 4 → rS (4 * v9 + j) = mn j) : F_X12_notFor rS v9 x = F_X10_newsOfOne mn (nI x) := by
  have e : ∀ m : Nat, L1_X12_notFor rS v9 x 0 m = L7_X12_carry rS v9 x 0 m := fun m => by
    induction m with
    | zero => rfl
    | succ m ih =>
      show L1_X12_notFors rS v9 x m (L1_X12_notFor rS v9 x 0 m) = L7_X12_carrys rS v9 x m (L7_X12_carry rS v9 x 0 m)
      rw [ih]; rfl
  unfold F_X12_notFor F_X10_newsOfOne
  rw [e, nwk_eq hx h 4 (Nat.le_refl _)]
theorem L1r_at {rK aF oN : Nat → Int32} : ∀ (m x : Nat), x < m → (L1_X12_carry rK v9 aF oN m).1 x = L7_X12_carry rK v9 x 0 4 ∧ (L1_X12_carry rK v9 aF oN m).2 x = 0
  | 0, x, h => absurd h (Nat.not_lt_zero _)
  | m + 1, x, h => by
    show upd (L1_X12_carry rK v9 aF oN m).1 m (L7_X12_carry rK v9 m 0 4) x = _ ∧ upd (L1_X12_carry rK v9 aF oN m).2 m 0 x = 0
    by_cases e : x = m
    · subst e; rw [upd_eq, upd_eq]; exact ⟨rfl, rfl⟩
    · rw [upd_ne e, upd_ne e]; exact L1r_at m x (by omega)
end

/-! kept: both sides go on alike -/
theorem shr_b1 {x : Int32} {b : Nat} (hb : b < 32) : (x >>> (nI b &&& 31)) &&& 1 = 1 ↔ bt x b = true := by
  have e : bt (x >>> (nI b &&& 31)) 0 = bt x b := by rw [b_sshr b hb x (by omega), if_pos (by omega), Nat.add_zero]
  constructor
  · intro h
    have h1 : bt ((x >>> (nI b &&& 31)) &&& 1) 0 = true := by rw [h, b_one 0 (by omega)]; rfl
    rw [b_and, e] at h1
    cases q : bt x b with
    | true => rfl
    | false => rw [q] at h1; cases h1
  · intro h
    refine b_ext fun i hi => ?_
    rw [b_and, b_one i hi]
    by_cases z : i = 0
    · subst z; rw [e, h]; rfl
    · rw [show decide (i = 0) = false from decide_eq_false z, Bool.and_false]
def KREL (w : VV) (s t : Int32 × (Nat → Int32)) : Prop := s.1 = t.1 ∧ OK6 s.2 ∧ (∀ j : Nat, j < 7 → tN (s.2 j) ≤ tN (w.cl j)) ∧ ∀ j : Nat, j < 7 → s.2 j = t.2 j
section
variable {F : Nat → Nat → Int32} {i h : Nat} {w : VV} {kn : Int32} {fy fb : Nat → Int32}
theorem kept_in (ok : VOK w) (ow : OWB w) (hr : RP1 F i w) (hi : i < 10) (hD : ∀ j : Nat, j < 420 → F 52 j = nI (tN (F 52 j)) ∧ tN (F 52 j) < 7) (h1 : 1 ≤ h) (h2 : h ≤ 24) (o6 : OK6 fy) (le : ∀ j : Nat, j < 7 → tN (fy j) ≤ tN (w.cl j)) (eq : ∀ j : Nat, j < 7 → fy j = fb j) : ∀ k : Nat, k ≤ w.p → KREL w (L1_X0_callOn kn (kx w) w.cd w.cl h 0 fy k) (L3_X12_kept (F 7) (F 12) (F 13) (F 14) (F 15) (F 16) (F 17) (F 52) (F 53) (nI i) h kn 0 fb k)
  | 0, _ => ⟨rfl, o6, le, eq⟩
  | k + 1, hk => by
    have ih := kept_in ok ow hr hi hD h1 h2 o6 le eq k (by omega)
    show KREL w (L1_X0_callOns kn (kx w) w.cd w.cl h k (L1_X0_callOn kn (kx w) w.cd w.cl h 0 fy k).1 (L1_X0_callOn kn (kx w) w.cd w.cl h 0 fy k).2) (L3_X12_kepts (F 7) (F 12) (F 13) (F 14) (F 15) (F 16) (F 17) (F 52) (F 53) (nI i) h kn k (L3_X12_kept (F 7) (F 12) (F 13) (F 14) (F 15) (F 16) (F 17) (F 52) (F 53) (nI i) h kn 0 fb k).1 (L3_X12_kept (F 7) (F 12) (F 13) (F 14) (F 15) (F 16) (F 17) (F 52) (F 53) (nI i) h kn 0 fb k).2)
    generalize L1_X0_callOn kn (kx w) w.cd w.cl h 0 fy k = s at ih ⊢
    generalize L3_X12_kept (F 7) (F 12) (F 13) (F 14) (F 15) (F 16) (F 17) (F 52) (F 53) (nI i) h kn 0 fb k = t at ih ⊢
    obtain ⟨e1, s6, sle, se⟩ := ih
    have hp := ok.1
    have hlc := ok.2.1
    have k7 : k < 7 := by omega
    have c4 := ok.2.2.2 k k7
    have c46 := c4.2
    have sl := sle k k7
    have hcr := hr.2.2.2.2.2.1 k k7
    have same : KREL w (s.1, s.2) (s.1, t.2) := ⟨rfl, s6, sle, se⟩
    unfold L1_X0_callOns L3_X12_kepts
    rw [tN_nI (show i < 2 ^ 31 by omega), hcr.1, hr.2.1, tN_nI (show w.lc < 2 ^ 31 by omega), ← se k k7, ← e1, show F_X10_callable (kx w) k h = kx w (h * 7 + k) from rfl]
    cases b1 : bt kn k with
    | false =>
      rw [if_pos ((hvb_0 (show k < 32 by omega)).mpr b1), if_pos ((shr_0 (show k < 32 by omega)).mpr b1)]
      exact same
    | true =>
      rw [if_neg (show ¬ hasv kn (nI k) = 0 from (bt_hasv (by omega)).mpr b1), if_neg (show ¬ (kn >>> (nI k &&& 31)) &&& 1 = 0 from fun q => by rw [(shr_0 (show k < 32 by omega)).mp q] at b1; cases b1)]
      by_cases b2 : tN (s.2 k) = tN (w.cl k)
      · have en : F_X10_nextOnCard w.cd w.cl k (tN (s.2 k)) = -1 := if_neg (fun q => by have := (nI_ltI (a := tN (s.2 k)) (b := tN (w.cl k)) (by omega) (by omega)).mp q; omega)
        rw [if_pos en, if_pos (congrArg nI b2)]
        exact same
      · have lt : tN (s.2 k) < tN (w.cl k) := by omega
        have en : F_X10_nextOnCard w.cd w.cl k (tN (s.2 k)) = w.cd (k * 6 + tN (s.2 k)) := if_pos ((nI_ltI (a := tN (s.2 k)) (b := tN (w.cl k)) (by omega) (by omega)).mpr lt)
        have ec := hcr.2 (tN (s.2 k)) lt
        have hd := hD (6 * (7 * i + k) + tN (s.2 k)) (by omega)
        rw [en, ← ec, if_neg (show ¬ nI (tN (s.2 k)) = nI (tN (w.cl k)) from fun q => b2 ((nI_eq (a := tN (s.2 k)) (b := tN (w.cl k)) (by omega) (by omega)).mp q))]
        generalize F 52 (6 * (7 * i + k) + tN (s.2 k)) = oth at hd ⊢
        obtain ⟨eo, ho⟩ := hd
        rw [← eo]
        have hne : ¬ oth = -1 := fun q => m1_ne (show tN oth < 2 ^ 31 by omega) (q.symm.trans eo)
        have m1 := mc_agree (a := k) (b := tN oth) (h := h) ok ow hr k7 ho h1 h2
        have m2 := bt_hasv (x := kx w (h * 7 + k)) (b := tN oth) (by omega)
        have m3 := bt_hasv (x := s.1) (b := tN oth) (by omega)
        have m4 := shr_b1 (x := s.1) (b := tN oth) (by omega)
        rw [← eo] at m2 m3 m4
        rw [if_neg hne]
        by_cases b3 : bt (kx w (h * 7 + k)) (tN oth) = true
        · rw [if_neg (m2.mpr b3)]
          by_cases b4 : bt s.1 (tN oth) = true
          · rw [if_neg (m3.mpr b4), if_pos (m4.mpr b4)]
            exact same
          · rw [if_pos (Decidable.byContradiction fun q => b4 (m3.mp q)), if_neg (fun q => b4 (m4.mp q)), if_neg (m1.mpr b3)]
            refine ⟨rfl, ok6_up s6 (by omega), fun j hj => ?_, fun j hj => ?_⟩
            · show tN (upd s.2 k (nI (tN (s.2 k) + 1)) j) ≤ tN (w.cl j)
              by_cases e : j = k
              · subst e; rw [upd_eq, tN_nI (by omega)]; omega
              · rw [upd_ne e]; exact sle j hj
            · show upd s.2 k (nI (tN (s.2 k) + 1)) j = upd t.2 k (nI (tN (s.2 k) + 1)) j
              by_cases e : j = k
              · subst e; rw [upd_eq, upd_eq]
              · rw [upd_ne e, upd_ne e]; exact se j hj
        · rw [if_pos (Decidable.byContradiction fun q => b3 (m2.mp q))]
          have mz : F_X12_mayCall (F 12) (F 13) (F 14) (F 15) (F 16) (F 17) w.lc i k (tN oth) (nI h) = 0 := Decidable.byContradiction fun q => b3 (m1.mp q)
          by_cases b4 : bt s.1 (tN oth) = true
          · rw [if_pos (m4.mpr b4)]
            exact same
          · rw [if_neg (fun q => b4 (m4.mp q)), if_pos mz]
            exact same
theorem kp_new {y1 y2 x4 T D : Int32} (hM : y2 &&& (y1 ^^^ -1) = x4 &&& (y1 ^^^ -1)) : y1 ||| ((T &&& (y1 ^^^ -1)) &&& (D ||| y2)) = y1 ||| ((T &&& (y1 ^^^ -1)) &&& (D ||| x4)) := b_ext fun i hi => by
  have hb : bt (y2 &&& (y1 ^^^ -1)) i = bt (x4 &&& (y1 ^^^ -1)) i := by rw [hM]
  rw [b_and, b_and, b_nt y1 hi] at hb
  rw [b_or, b_or, b_and, b_and, b_and, b_and, b_or, b_or, b_nt y1 hi]
  cases q1 : bt y1 i <;> cases q2 : bt y2 i <;> cases q3 : bt x4 i <;> rw [q1, q2, q3] at hb <;> first | rfl | (cases bt T i <;> cases bt D i <;> rfl) | cases hb
theorem kp_told {y1 y2 x4 T K : Int32} (hM : y2 &&& (y1 ^^^ -1) = x4 &&& (y1 ^^^ -1)) : (y2 ||| (T &&& (y1 ^^^ -1))) &&& ((y1 ||| K) ^^^ -1) = (x4 ||| T) &&& ((y1 ||| K) ^^^ -1) := b_ext fun i hi => by
  have hb : bt (y2 &&& (y1 ^^^ -1)) i = bt (x4 &&& (y1 ^^^ -1)) i := by rw [hM]
  rw [b_and, b_and, b_nt y1 hi] at hb
  rw [b_and, b_and, b_or, b_or, b_and, b_nt y1 hi, b_nt (y1 ||| K) hi, b_or]
  cases q1 : bt y1 i <;> cases q2 : bt y2 i <;> cases q3 : bt x4 i <;> rw [q1, q2, q3] at hb <;> first | rfl | (cases bt T i <;> cases bt K i <;> rfl) | cases hb
theorem kept_hours (ok : VOK w) (ow : OWB w) (hr : RP1 F i w) (hi : i < 10) (hD : ∀ j : Nat, j < 420 → F 52 j = nI (tN (F 52 j)) ∧ tN (F 52 j) < 7) : ∀ (m j : Nat) (fy fb : Nat → Int32) (y1 y2 x4 : Int32), j ≤ 25 → OK6 fy → (∀ k : Nat, k < 7 → tN (fy k) ≤ tN (w.cl k)) → (∀ k : Nat, k < 7 → fy k = fb k) → y2 &&& (y1 ^^^ -1) = x4 &&& (y1 ^^^ -1) → (L1_X0_hoursTillAllKnow w.p w.de (kx w) w.cd w.cl m j fy y1 y2).1 = (L2_X12_kept (F 6) (F 7) (F 8) (F 12) (F 13) (F 14) (F 15) (F 16) (F 17) (F 52) (F 53) (nI i) m j x4 y1 fb).1
  | 0, _, _, _, _, _, _, _, _, _, _, _ => rfl
  | m + 1, j, fy, fb, y1, y2, x4, hj, o6, le, eq, hM => by
    have hp := ok.1
    have ei : tN (nI i) = i := tN_nI (by omega)
    have ev : F_X12_everybody (F 6) (tN (nI i)) = evy (nI w.p) := by rw [ei]; unfold F_X12_everybody; rw [hr.1]; rfl
    have ep : tN (F 6 (tN (nI i))) = w.p := by rw [ei, hr.1, tN_nI (by omega)]
    have ed : F 8 (tN (nI i)) = w.de := by rw [ei]; exact hr.2.2.1
    rw [L1_X0_hoursTillAllKnow, L2_X12_kept, ev]
    by_cases c1 : 24 < nI j
    · rw [if_pos c1, if_pos c1]
    · have hj24 : j ≤ 24 := Nat.not_lt.mp fun q => c1 ((nI_ltI (a := 24) (b := j) (by omega) (by omega)).mpr q)
      rw [if_neg c1, if_neg c1]
      by_cases c2 : nI j ≤ 0
      · rw [if_pos c2, if_pos c2]
        by_cases c3 : y1 = evy (nI w.p)
        · rw [if_pos c3, if_pos c3]
        · rw [if_neg c3, if_neg c3]
          exact kept_hours ok ow hr hi hD m (j + 1) fy fb y1 y2 x4 (by omega) o6 le eq hM
      · rw [if_neg c2, if_neg c2, ep, ed]
        have hj1 : 1 ≤ j := Nat.pos_of_ne_zero fun q => c2 (by rw [q]; exact Int32.le_refl _)
        obtain ⟨e1, s6, sle, se⟩ := kept_in (kn := y1) ok ow hr hi hD hj1 hj24 o6 le eq w.p (Nat.le_refl _)
        unfold F_X0_callOn
        dsimp only
        rw [e1, kp_new hM]
        split
        · rfl
        · exact kept_hours ok ow hr hi hD m (j + 1) _ _ _ _ _ (by omega) s6 sle se (kp_told hM)
end
/-! the answer -/
def ktA (w : VV) (y : Int32) : Int32 := if F_X10_hasPerson (nI w.p) y = 0 then -1 else (F_X0_hoursTillAllKnow w.p w.de (kx w) w.cd w.cl y).1
theorem kt_cls {w : VV} {gv : Value} {kn on : Int32} {cN : Nat → Int32} {v : Nat} {y : Int32} : (F_X11_kept1 gv kn on cN v w.p w.de (kx w) w.cd w.cl y).1 = ktA w y := by
  unfold F_X11_kept1 ktA
  by_cases h : F_X10_hasPerson (nI w.p) y = 0
  · rw [if_pos h, if_pos h]
  · rw [if_neg h, if_neg h]
theorem kt_ref {nv : Nat} {V : Nat → VV} {F : Nat → Nat → Int32} {gN : Nat → Int32} {x y : Int32} (hnv : nv ≤ 10) (hV : RPW nv V F) (ow : ∀ i : Nat, i < nv → OWB (V i)) (hD : ∀ j : Nat, j < 420 → F 52 j = nI (tN (F 52 j)) ∧ tN (F 52 j) < 7) : (F_X12_kept nv (F 6) (F 7) (F 8) (F 12) (F 13) (F 14) (F 15) (F 16) (F 17) (F 52) (F 53) gN x y).1 = vAns nv V x (-1) (fun w => ktA w y) := by
  rcases vin_cases (n := nv) (by omega) x with hb | ⟨i, hi, rfl⟩
  · rw [vAns_no hb]
    unfold F_X12_kept
    rw [rv_no hb, if_pos rfl]
  · rw [vAns_ok hnv hi]
    obtain ⟨ok, hr⟩ := hV i hi
    have hp := ok.1
    unfold F_X12_kept ktA F_X12_isPerson
    rw [if_neg (rv_yes hnv hi), tN_nI (show i < 2 ^ 31 by omega), hr.1, per_eq (by omega)]
    by_cases h1 : F_X10_hasPerson (nI (V i).p) y = 0
    · rw [if_pos h1, if_pos h1]
    · rw [if_neg h1, if_neg h1]
      unfold F_X0_hoursTillAllKnow
      exact (kept_hours ok (ow i hi) hr (by omega) hD (25 + 1) 0 _ _ _ _ _ (by omega) ok6_0 (fun j hj => Nat.zero_le _) (fun j hj => (kz_at 7 j hj).symm) rfl).symm

section
variable {p ho : Nat} {zd zt zm : Int32} {cA cB pw : Nat → Int32} {s0 : Int32}
theorem dx_cong (e : ∀ h a : Nat, 1 ≤ h → h ≤ 24 → a < p → cA (h * 7 + a) = cB (h * 7 + a)) : ∀ (n h : Nat) (x : Int32), 1 ≤ h → h + n ≤ 25 → DX p zd zt zm cA n h x → DX p zd zt zm cB n h x
  | 0, h, x, _, _, q => q
  | n + 1, h, x, h1, h2, ⟨C, hC, q⟩ => ⟨C, hC.cong fun a ha => (chX_cong (e h a h1 (by omega) ha)).symm, dx_cong e n (h + 1) _ (by omega) (by omega) q⟩
theorem first_cong {ch ch2 : Nat → Int32} {Q Q2 : Int32 → Prop} {r0 r : Nat → Nat} (e : ∀ a : Nat, a < p → ch2 a = ch a) (hq : ∀ s : Int32, Q s ↔ Q2 s) (h : First p ch (MQX p ch Q) 0 r0 r) : First p ch2 (MQX p ch2 Q2) 0 r0 r := by
  obtain ⟨a1, a2, a3, a4⟩ := h
  refine ⟨a1.ch e, a2, ⟨rmax_ch a3.1 e, (hq _).mp a3.2⟩, fun a h1 h2 r2 f1 f2 f3 f4 => ?_⟩
  exact a4 a h1 h2 r2 (f1.ch fun a ha => (e a ha).symm) f2 f3 ⟨rmax_ch f4.1 fun a ha => (e a ha).symm, (hq _).mpr f4.2⟩
theorem pth_cong (h1 : 1 ≤ ho) {N : Nat} (hN : ho + N ≤ 25) (e : ∀ h a : Nat, 1 ≤ h → h ≤ 24 → a < p → cA (h * 7 + a) = cB (h * 7 + a)) : ∀ (j : Nat) (y : Int32) (r : Nat → Nat), j < N → PTH p ho zd zt zm cA s0 N j y r → PTH p ho zd zt zm cB s0 N j y r
  | 0, y, r, hj, ⟨k1, k2⟩ => ⟨first_cong (fun a ha => (chX_cong (e ho a h1 (by omega) ha)).symm) (fun s => ⟨dx_cong e _ _ _ (by omega) (by omega), dx_cong (fun h a a1 a2 a3 => (e h a a1 a2 a3).symm) _ _ _ (by omega) (by omega)⟩) k1, k2⟩
  | j + 1, y, r, hj, ⟨x, r0, k0, k1, k2⟩ => ⟨x, r0, pth_cong h1 hN e j x r0 (by omega) k0, first_cong (fun a ha => (chX_cong (e (ho + (j + 1)) a (by omega) (by omega) ha)).symm) (fun s => ⟨dx_cong e _ _ _ (by omega) (by omega), dx_cong (fun h a a1 a2 a3 => (e h a a1 a2 a3).symm) _ _ _ (by omega) (by omega)⟩) k1, k2⟩
theorem lr_path {P Q : Nat} {sa gd nw nx fS fO fM fC : Nat → Int32} {rc rp kk x : Int32} (hpw : PWT pw) (hp : p ≤ 7) (h0 : GS s0) {N : Nat} (hN : ho + N ≤ 25) (hkN : tN kk < N) (hG : ∀ q t : Nat, q < 2187 → 1 ≤ t → t ≤ N → (bt ((D1_X7_lowestRow P Q p zd zt zm cA pw sa gd nw nx fS fO fM fC rc rp x ho).1 q) t = true ↔ GDx p ho zd zt zm cA pw s0 N t q)) : ∀ (m j : Nat) (x6 x5 : Int32) (S O M C : Nat → Int32) (y3 y5 : Int32), tN kk + 1 < m + j → j ≤ tN kk + 1 → RI S M y3 → ZS p ho zd zt cA s0 j x5 → DX p zd zt zm cA (N - j) (ho + j) x5 → ((j = 0 ∧ x5 = s0) ∨ ∃ (j' : Nat) (r : Nat → Nat), j = j' + 1 ∧ PTH p ho zd zt zm cA s0 N j' x5 r ∧ x6 = rval r p) → ∃ (y : Int32) (r : Nat → Nat), PTH p ho zd zt zm cA s0 N (tN kk) y r ∧ (L1_X7_lowestRow P Q p zd zt zm cA pw sa gd nw nx fS fO fM fC rc rp x ho kk m j x6 x5 S O M C y3 y5).1 = rval r p
  | 0, j, _, _, _, _, _, _, _, _, h, h2, _, _, _, _ => absurd h (by omega)
  | m + 1, j, x6, x5, S, O, M, C, y3, y5, h, h2, hI, hZ, hD, hpt => by
    rw [L1_X7_lowestRow]
    by_cases c1 : nI (tN kk) < nI j
    · rw [if_pos c1]
      have hj := (nI_ltI (a := tN kk) (b := j) (by omega) (by omega)).mp c1
      rcases hpt with ⟨z, -⟩ | ⟨j', r, e, a1, a2⟩
      · omega
      · have ej : j' = tN kk := by omega
        rw [ej] at a1
        exact ⟨x5, r, a1, a2⟩
    · rw [if_neg c1]
      have hj : j ≤ tN kk := by
        have z : ¬ tN kk < j := fun z => c1 ((nI_ltI (by omega) (by omega)).mpr z)
        omega
      have hq : ∀ r : Nat → Nat, RWp p (chX cA x5 (ho + j) zt) p r → rmax p (chX cA x5 (ho + j) zt) r → (Qg zd pw (D1_X7_lowestRow P Q p zd zt zm cA pw sa gd nw nx fS fO fM fC rc rp x ho).1 x5 (nI (j + 1)) (rset r p) ↔ DX p zd zt zm cA (N - j - 1) (ho + j + 1) (F_X7_stateAfter zd x5 (rset r p))) := fun r h1 h2 => by
        have hS : SetOf p (chX cA x5 (ho + j) zt) (rset r p) := ⟨r, h1, h2, rfl⟩
        have hy : ZS p ho zd zt cA s0 (j + 1) (F_X7_stateAfter zd x5 (rset r p)) := ⟨x5, hZ, _, hS, rfl⟩
        unfold Qg
        rw [bt_hasv (show j + 1 < 32 by omega), hG _ _ (pl_lt hpw (zs_gs hp h0 _ _ hy)) (by omega) (by omega), gdx_at hpw hp h0 hy, show N - (j + 1) = N - j - 1 by omega, show ho + (j + 1) = ho + j + 1 by omega]
      have hD2 : DX p zd zt zm cA (N - j - 1 + 1) (ho + j) x5 := by
        rw [show N - j - 1 + 1 = N - j by omega]
        exact hD
      obtain ⟨K, ⟨rk, k1, k2, k3⟩, k4⟩ := hD2
      have hl := lg_first (p := p) (zd := zd) (zt := zt) (cA := cA) (pw := pw) (gd := (D1_X7_lowestRow P Q p zd zt zm cA pw sa gd nw nx fS fO fM fC rc rp x ho).1) (ho := ho + j) (O := O) (C := C) (x := x5) (hs := nI (j + 1)) hp hI
      rcases hl with ⟨-, a2⟩ | ⟨r, a1, i, hi, a3, a4, a5⟩
      · exact absurd ⟨k2, (hq rk k1 k2).mpr (by rw [k3]; exact k4)⟩ (a2 rk k1)
      · have c2 : ¬ (D2_X7_lowestRow P Q p zd zt zm cA pw sa gd nw nx fS fO fM fC rc rp x ho j x5 S O M C y3).1 = -1 := fun q => m1_ne (show i < 2 ^ 31 by omega) (a3.symm.trans q).symm
        rw [if_neg c2]
        have hat := (lg_at (zd := zd) (zt := zt) (cA := cA) (pw := pw) (gd := (D1_X7_lowestRow P Q p zd zt zm cA pw sa gd nw nx fS fO fM fC rc rp x ho).1) (O := O) (C := C) (x := x5) (hs := nI (j + 1)) (ho := ho + j) hp hI).1
        have hri := lg_RI (zd := zd) (zt := zt) (cA := cA) (pw := pw) (gd := (D1_X7_lowestRow P Q p zd zt zm cA pw sa gd nw nx fS fO fM fC rc rp x ho).1) (O := O) (C := C) (x := x5) (hs := nI (j + 1)) (ho := ho + j) hp hI
        have ei : tN (D2_X7_lowestRow P Q p zd zt zm cA pw sa gd nw nx fS fO fM fC rc rp x ho j x5 S O M C y3).1 = i := by rw [show (D2_X7_lowestRow P Q p zd zt zm cA pw sa gd nw nx fS fO fM fC rc rp x ho j x5 S O M C y3).1 = nI i from a3, tN_nI (by omega)]
        have eS : (D2_X7_lowestRow P Q p zd zt zm cA pw sa gd nw nx fS fO fM fC rc rp x ho j x5 S O M C y3).2.1 i = rset r p := (congrFun (congrArg (fun u => u.1) hat) i).trans a4
        have eO : (D2_X7_lowestRow P Q p zd zt zm cA pw sa gd nw nx fS fO fM fC rc rp x ho j x5 S O M C y3).2.2.1 i = rval r p := (congrFun (congrArg (fun u => u.2.1) hat) i).trans a5
        have e3 : D3_X7_lowestRow P Q p zd zt zm cA pw sa gd nw nx fS fO fM fC rc rp x ho j x5 S O M C y3 = F_X7_stateAfter zd x5 (rset r p) := by
          show F_X7_stateAfter zd x5 ((D2_X7_lowestRow P Q p zd zt zm cA pw sa gd nw nx fS fO fM fC rc rp x ho j x5 S O M C y3).2.1 (tN (D2_X7_lowestRow P Q p zd zt zm cA pw sa gd nw nx fS fO fM fC rc rp x ho j x5 S O M C y3).1)) = _
          rw [ei, eS]
        have hF := mq_iff (Q2 := fun s => DX p zd zt zm cA (N - j - 1) (ho + j + 1) (F_X7_stateAfter zd x5 s)) hq a1
        have hS : SetOf p (chX cA x5 (ho + j) zt) (rset r p) := ⟨r, a1.1, a1.2.2.1.1, rfl⟩
        have hDn := (hq r a1.1 a1.2.2.1.1).mp a1.2.2.1.2
        rw [e3, ei, eO]
        refine lr_path hpw hp h0 hN hkN hG m (j + 1) _ _ _ _ _ _ _ _ (by omega) (by omega) hri ⟨x5, hZ, _, hS, rfl⟩ ?_ (Or.inr ⟨j, r, rfl, ?_, rfl⟩)
        · rw [show N - (j + 1) = N - j - 1 by omega, show ho + (j + 1) = ho + j + 1 by omega]
          exact hDn
        · rcases hpt with ⟨z1, z2⟩ | ⟨j', r0, z1, z2, -⟩
          · subst z1
            subst z2
            exact ⟨hF, rfl⟩
          · subst z1
            exact ⟨x5, r0, z2, hF, rfl⟩
end
theorem rval_at {r : Nat → Nat} : ∀ j : Nat, j ≤ 7 → (∀ a : Nat, a < j → r a ≤ 7) → ∀ i : Nat, i < 32 → (bt (rval r j) i = true ↔ i / 3 < j ∧ Nat.testBit (r (i / 3)) (i % 3) = true)
  | 0, _, _, i, _ => ⟨fun q => (by rw [show rval r 0 = 0 from rfl, b_0] at q; cases q), fun h => absurd h.1 (Nat.not_lt_zero _)⟩
  | j + 1, hj, h, i, hi => by
    have ih := rval_at (r := r) j (by omega) (fun a ha => h a (by omega)) i hi
    have h7 := h j (Nat.lt_succ_self _)
    show bt (rval r j ||| (nI (r j) <<< (nI (j * 3) &&& 31))) i = true ↔ _
    rw [b_or, b_shl (j * 3) (by omega) _ hi, Bool.or_eq_true, Bool.and_eq_true, decide_eq_true_eq, ih]
    have hb : ∀ q : Nat, q ≤ 7 → ∀ t : Nat, t < 32 → bt (nI q) t = Nat.testBit q t := fun q hq t ht => (by decide +kernel : ∀ q : Nat, q < 8 → ∀ t : Nat, t < 32 → bt (nI q) t = Nat.testBit q t) q (by omega) t ht
    have hs : ∀ q : Nat, q ≤ 7 → ∀ t : Nat, t < 32 → 3 ≤ t → Nat.testBit q t = false := fun q hq t ht h3 => (by decide +kernel : ∀ q : Nat, q < 8 → ∀ t : Nat, t < 32 → 3 ≤ t → Nat.testBit q t = false) q (by omega) t ht h3
    constructor
    · rintro (⟨z1, z2⟩ | ⟨z1, z2⟩)
      · exact ⟨by omega, z2⟩
      · rw [hb (r j) h7 _ (by omega)] at z2
        by_cases y : i - j * 3 < 3
        · have e1 : i / 3 = j := by omega
          have e2 : i % 3 = i - j * 3 := by omega
          rw [e1, e2]
          exact ⟨by omega, z2⟩
        · rw [hs (r j) h7 _ (by omega) (by omega)] at z2
          cases z2
    · rintro ⟨z1, z2⟩
      by_cases y : i / 3 = j
      · refine Or.inr ⟨by omega, ?_⟩
        rw [hb (r j) h7 _ (by omega), ← y, show i - i / 3 * 3 = i % 3 by omega]
        exact z2
      · exact Or.inl ⟨by omega, z2⟩
/-- whom one calls in a row -/
theorem called_at {p o : Nat} {r : Nat → Nat} (hp : p ≤ 7) (h7 : ∀ a : Nat, a < p → r a ≤ 7) (ho : o < p) : F_X5_calledIn (rval r p) (nI o) = nI (r o) := by
  have hro := h7 o ho
  have e3 : nI o * (3 : Int32) = nI (o * 3) := pk_mul o 3
  unfold F_X5_calledIn
  rw [e3]
  refine b_eq fun i hi => ?_
  have hb : bt (nI (r o)) i = Nat.testBit (r o) i := (by decide +kernel : ∀ q : Nat, q < 8 → ∀ t : Nat, t < 32 → bt (nI q) t = Nat.testBit q t) (r o) (by omega) i hi
  have h127 : bt (7 : Int32) i = decide (i < 3) := (by decide +kernel : ∀ t : Nat, t < 32 → bt (7 : Int32) t = decide (t < 3)) i hi
  rw [b_and, Bool.and_eq_true, h127, decide_eq_true_eq, hb, b_sshr (o * 3) (by omega) _ hi]
  by_cases y : i < 3
  · rw [if_pos (by omega), rval_at p hp h7 _ (by omega), show (o * 3 + i) / 3 = o by omega, show (o * 3 + i) % 3 = i by omega]
    exact ⟨fun q => q.1.2, fun q => ⟨⟨ho, q⟩, y⟩⟩
  · have : Nat.testBit (r o) i = false := (by decide +kernel : ∀ q : Nat, q < 8 → ∀ t : Nat, t < 32 → 3 ≤ t → Nat.testBit q t = false) (r o) (by omega) i hi (by omega)
    rw [this]
    exact ⟨fun q => absurd q.2 y, fun q => absurd q (by decide)⟩
theorem rval_ne {p : Nat} {r : Nat → Nat} (hp : p ≤ 7) (h7 : ∀ a : Nat, a < p → r a ≤ 7) : ¬ rval r p = -1 := fun q => by
  have e : bt (rval r p) 31 = true := by rw [q]; exact b_m1 31 (by omega)
  have := ((rval_at p hp h7 31 (by omega)).mp e).1
  omega
/-- whom one calls in the k-th of the lowest rows by which a news is done in the least hours -/
def FDV (w : VV) (ni h : Nat) (kk : Int32) (o : Nat) (v : Int32) : Prop := (∃ (N : Nat) (y : Int32) (r : Nat → Nat), h + N ≤ 25 ∧ lsN w ni h = nI N ∧ tN kk < N ∧ PTH w.p h w.de (TPw w ni) (w.mu ni) (cAw w ni) (F_X7_state (w.kn ni) 0) N (tN kk) y r ∧ v = nI (r o)) ∨ ((∀ N : Nat, h + N ≤ 25 → lsN w ni h = nI N → ¬ tN kk < N) ∧ v = -1)
theorem FDV.uniq {w : VV} {ni h o : Nat} {kk v v2 : Int32} (ho : o < w.p) (a : FDV w ni h kk o v) (b : FDV w ni h kk o v2) : v = v2 := by
  rcases a with ⟨N, y, r, a1, a2, a3, a4, a5⟩ | ⟨a1, a2⟩
  · rcases b with ⟨N2, y2, r2, b1, b2, b3, b4, b5⟩ | ⟨b1, _⟩
    · have e := (nI_eq (a := N) (b := N2) (by omega) (by omega)).mp (a2.symm.trans b2)
      subst e
      rw [a5, b5, (pth_uniq _ _ _ _ _ a4 b4).2 o ho]
    · exact absurd a3 (b1 N a1 a2)
  · rcases b with ⟨N2, y2, r2, b1, b2, b3, b4, b5⟩ | ⟨_, b2⟩
    · exact absurd b3 (a1 N2 b1 b2)
    · rw [a2, b2]
noncomputable def fdA (w : VV) (y z t u : Int32) : Int32 := if F_X11_isNews y = 0 then -1 else if F_X11_isHour z = 0 then -1 else if t < 0 then -1 else if F_X10_hasPerson (nI w.p) u = 0 then -1 else Classical.epsilon (FDV w (tN y) (tN z) t (tN u))
theorem fdV_eq {w : VV} {ni h o : Nat} {kk v : Int32} (ho : o < w.p) (a : FDV w ni h kk o v) : v = Classical.epsilon (FDV w ni h kk o) := a.uniq ho (Classical.epsilon_spec ⟨v, a⟩)
theorem nn_at {t : Int32} (h : 0 ≤ t) : t = nI (tN t) ∧ tN t < 2 ^ 31 := by
  have h1 := Int32.le_iff_toInt_le.mp h
  rw [show (0 : Int32).toInt = 0 from by decide] at h1
  have h2 := Int32.toInt_lt t
  have e : t = nI (t.toInt.toNat) := Int32.toInt_inj.mp (by rw [nI_toInt (by omega)]; omega)
  have e2 : tN t = t.toInt.toNat := by
    have := congrArg tN e
    rw [tN_nI (by omega)] at this
    exact this
  exact ⟨by rw [e2]; exact e, by omega⟩
theorem fd_cls {w : VV} {P Q : Nat} {zp zd zt zm zi0 zi1 y z t u rc rp : Int32} {cA pw sa ct gd nw nx fS fO fM fC : Nat → Int32} (ok : VOK w) (hK : KNB w) (hpt : PWT pw) (hsa : SAT sa) (hI : RI fS fM rc) : (F_X11_found1 P Q zp zd zt zm zi0 zi1 cA pw sa ct gd nw nx fS fO fM fC rc rp w.p w.de w.kn w.mu w.mn (kx w) y z t u).1 = fdA w y z t u := by
  have hp := ok.1
  unfold F_X11_found1 fdA
  by_cases c1 : F_X11_isNews y = 0
  · rw [if_pos c1, if_pos c1]
  · rw [if_neg c1, if_neg c1]
    by_cases c2 : F_X11_isHour z = 0
    · rw [if_pos c2, if_pos c2]
    · rw [if_neg c2, if_neg c2]
      by_cases c3 : t < 0
      · rw [if_pos c3, if_pos c3]
      · rw [if_neg c3, if_neg c3]
        by_cases c4 : F_X10_hasPerson (nI w.p) u = 0
        · rw [if_pos c4, if_pos c4]
        · rw [if_neg c4, if_neg c4]
          have y4 := (hn_at c1).2
          obtain ⟨-, z1, z2⟩ := hr_at c2
          obtain ⟨eu, hu⟩ := hp_at (n := w.p) (by omega) c4
          obtain ⟨et, ht⟩ := nn_at (Int32.not_lt.mp c3)
          have hk7 := kn_s7 ok hK y4
          have h0 := gs_0 hk7
          have hzt : ∀ i : Nat, i < 32 → bt (TPw w (tN y)) i = true → i < w.p := fun i hi q => ((tp_bit ok hi).mp q).1
          have hv := lh_val (P := P) (Q := Q) (zd := w.de) (zt := TPw w (tN y)) (zm := w.mu (tN y)) (cA := L1_X7_prepare w.p w.mn (kx w) (tN y) cA 24) (now := nw) (nx := nx) (O := fO) (C := fC) (rp := rp) hpt hp z2 hk7 s7_0 (and_0r _) hI
          have e := lsV_eq (hv.iff (P2 := ZP w.p (tN z) w.de (TPw w (tN y)) (cAw w (tN y)) (F_X7_state (w.kn (tN y)) 0) (w.mu (tN y))) fun n hn => zp_cong z1 (fun h a a1 a2 a3 => pr_any hp a1 a2 a3) (by omega))
          have e : (F_X7_leastHours P Q w.p w.de (TPw w (tN y)) (w.mu (tN y)) (L1_X7_prepare w.p w.mn (kx w) (tN y) cA 24) pw nw nx fS fO fM fC rc rp (w.kn (tN y)) 0 (tN z)).1 = lsN w (tN y) (tN z) := e
          rcases hv with ⟨v1, v2⟩ | ⟨N, hN, v2, v3, v4⟩
          · have c5 : (F_X7_lowestRow P Q w.p w.de (TPw w (tN y)) (w.mu (tN y)) (L1_X7_prepare w.p w.mn (kx w) (tN y) cA 24) pw sa gd nw nx fS fO fM fC rc rp (w.kn (tN y)) (tN z) t).1 = -1 := by
              unfold F_X7_lowestRow
              rw [if_neg (show ¬ t < (F_X7_leastHours P Q w.p w.de (TPw w (tN y)) (w.mu (tN y)) (L1_X7_prepare w.p w.mn (kx w) (tN y) cA 24) pw nw nx fS fO fM fC rc rp (w.kn (tN y)) 0 (tN z)).1 from fun q => by
                rw [v1] at q
                exact c3 (Int32.lt_trans q (by decide)))]
            rw [if_pos c5]
            exact fdV_eq hu (Or.inr ⟨fun N _ q => absurd ((v1.symm.trans e).trans q) (m1_ne (by omega)), rfl⟩)
          · by_cases hkN : tN t < N
            · have eN : tN (F_X7_leastHours P Q w.p w.de (TPw w (tN y)) (w.mu (tN y)) (L1_X7_prepare w.p w.mn (kx w) (tN y) cA 24) pw nw nx fS fO fM fC rc rp (w.kn (tN y)) 0 (tN z)).1 = N := by rw [v2, tN_nI (by omega)]
              have hlt : t < (F_X7_leastHours P Q w.p w.de (TPw w (tN y)) (w.mu (tN y)) (L1_X7_prepare w.p w.mn (kx w) (tN y) cA 24) pw nw nx fS fO fM fC rc rp (w.kn (tN y)) 0 (tN z)).1 := by
                rw [v2, et]
                exact (nI_ltI (by omega) (by omega)).mpr hkN
              have hmk := lh_mk (P := P) (Q := Q) (zd := w.de) (zt := TPw w (tN y)) (zm := w.mu (tN y)) (cA := L1_X7_prepare w.p w.mn (kx w) (tN y) cA 24) (now := nw) (nx := nx) (O := fO) (C := fC) (rp := rp) hpt hp z2 hk7 s7_0 (and_0r _) hI (n := N) (by omega) (by omega) v2
              have hri := (lh_ok (p := P) (q := Q) (zp := w.p) (zd := w.de) (zt := TPw w (tN y)) (zm := w.mu (tN y)) (cA := L1_X7_prepare w.p w.mn (kx w) (tN y) cA 24) (pw := pw) (now := nw) (nx := nx) (O := fO) (C := fC) (rp := rp) (x := w.kn (tN y)) (y := 0) hp z2 hI).1
              have hG : ∀ q t : Nat, q < 2187 → 1 ≤ t → t ≤ N → (bt ((D1_X7_lowestRow P Q w.p w.de (TPw w (tN y)) (w.mu (tN y)) (L1_X7_prepare w.p w.mn (kx w) (tN y) cA 24) pw sa gd nw nx fS fO fM fC rc rp (w.kn (tN y)) (tN z)).1 q) t = true ↔ GDx w.p (tN z) w.de (TPw w (tN y)) (w.mu (tN y)) (L1_X7_prepare w.p w.mn (kx w) (tN y) cA 24) pw (F_X7_state (w.kn (tN y)) 0) N t q) := by
                unfold D1_X7_lowestRow
                rw [eN]
                exact mg_marks hpt hp h0 hsa ⟨by omega, by omega⟩ hmk hri
              have hDX := dn_dx hp hzt N (tN z) _ _ h0 h0 ⟨fun _ _ q => q, fun _ _ q => Or.inr q⟩ ((zp_dn hp hzt h0).mp v3)
              have hmr := mg_RI (zd := w.de) (zt := TPw w (tN y)) (zm := w.mu (tN y)) (cA := L1_X7_prepare w.p w.mn (kx w) (tN y) cA 24) (pw := pw) (sa := sa) (ct := (F_X7_leastHours P Q w.p w.de (TPw w (tN y)) (w.mu (tN y)) (L1_X7_prepare w.p w.mn (kx w) (tN y) cA 24) pw nw nx fS fO fM fC rc rp (w.kn (tN y)) 0 (tN z)).2.2.2.1) (ho := tN z) (hk := tN (F_X7_leastHours P Q w.p w.de (TPw w (tN y)) (w.mu (tN y)) (L1_X7_prepare w.p w.mn (kx w) (tN y) cA 24) pw nw nx fS fO fM fC rc rp (w.kn (tN y)) 0 (tN z)).1) (gd := gd) (O := (F_X7_leastHours P Q w.p w.de (TPw w (tN y)) (w.mu (tN y)) (L1_X7_prepare w.p w.mn (kx w) (tN y) cA 24) pw nw nx fS fO fM fC rc rp (w.kn (tN y)) 0 (tN z)).2.2.2.2.2.2.2.2.1) (C := (F_X7_leastHours P Q w.p w.de (TPw w (tN y)) (w.mu (tN y)) (L1_X7_prepare w.p w.mn (kx w) (tN y) cA 24) pw nw nx fS fO fM fC rc rp (w.kn (tN y)) 0 (tN z)).2.2.2.2.2.2.2.2.2.2.1) (rp := (F_X7_leastHours P Q w.p w.de (TPw w (tN y)) (w.mu (tN y)) (L1_X7_prepare w.p w.mn (kx w) (tN y) cA 24) pw nw nx fS fO fM fC rc rp (w.kn (tN y)) 0 (tN z)).2.2.2.2.2.2.2.2.2.2.2.2) hp hri
              obtain ⟨y2, r, g1, g2⟩ := lr_path (kk := t) hpt hp h0 (by omega) hkN hG (tN t + 1 + 1) 0 (-1) (F_X7_state (w.kn (tN y)) 0) _ _ _ _ _ _ (by omega) (Nat.zero_le _) hmr rfl hDX (Or.inl ⟨rfl, rfl⟩)
              have e5 : (F_X7_lowestRow P Q w.p w.de (TPw w (tN y)) (w.mu (tN y)) (L1_X7_prepare w.p w.mn (kx w) (tN y) cA 24) pw sa gd nw nx fS fO fM fC rc rp (w.kn (tN y)) (tN z) t).1 = rval r w.p := by
                unfold F_X7_lowestRow
                rw [if_pos hlt]
                exact g2
              have hf : ∀ a : Nat, a < w.p → r a ≤ 7 := by
                have hrw : ∃ (ch : Nat → Int32), RWp w.p ch w.p r := by
                  cases hk : tN t with
                  | zero => rw [hk] at g1; exact ⟨_, g1.1.1⟩
                  | succ j => rw [hk] at g1; obtain ⟨x, r0, -, q, -⟩ := g1; exact ⟨_, q.1⟩
                obtain ⟨ch, q⟩ := hrw
                exact fun a ha => q.le hp ha
              rw [if_neg (show ¬ (F_X7_lowestRow P Q w.p w.de (TPw w (tN y)) (w.mu (tN y)) (L1_X7_prepare w.p w.mn (kx w) (tN y) cA 24) pw sa gd nw nx fS fO fM fC rc rp (w.kn (tN y)) (tN z) t).1 = -1 by rw [e5]; exact rval_ne hp hf)]
              refine fdV_eq hu (Or.inl ⟨N, y2, r, by omega, e.symm.trans v2, hkN, pth_cong z1 (by omega) (fun h a a1 a2 a3 => pr_any hp a1 a2 a3) _ _ _ hkN g1, ?_⟩)
              show F_X5_calledIn (F_X7_lowestRow P Q w.p w.de (TPw w (tN y)) (w.mu (tN y)) (L1_X7_prepare w.p w.mn (kx w) (tN y) cA 24) pw sa gd nw nx fS fO fM fC rc rp (w.kn (tN y)) (tN z) t).1 (nI (tN u)) = _
              rw [e5]
              exact called_at hp hf hu
            · have c5 : (F_X7_lowestRow P Q w.p w.de (TPw w (tN y)) (w.mu (tN y)) (L1_X7_prepare w.p w.mn (kx w) (tN y) cA 24) pw sa gd nw nx fS fO fM fC rc rp (w.kn (tN y)) (tN z) t).1 = -1 := by
                unfold F_X7_lowestRow
                rw [if_neg (show ¬ t < (F_X7_leastHours P Q w.p w.de (TPw w (tN y)) (w.mu (tN y)) (L1_X7_prepare w.p w.mn (kx w) (tN y) cA 24) pw nw nx fS fO fM fC rc rp (w.kn (tN y)) 0 (tN z)).1 from fun q => by
                  rw [v2, et] at q
                  exact hkN ((nI_ltI (by omega) (by omega)).mp q))]
              rw [if_pos c5]
              exact fdV_eq hu (Or.inr ⟨fun N2 h2 q => by
                have e2 := (nI_eq (a := N) (b := N2) (by omega) (by omega)).mp ((v2.symm.trans e).trans q)
                rw [← e2]; exact hkN, rfl⟩)

/-! found: the same rows on both sides -/
section
variable {p ho : Nat} {zd zt zm : Int32} {cA : Nat → Int32} {s0 : Int32}
theorem gr_first (hp : p ≤ 7) (hzt : ∀ i : Nat, i < 32 → bt zt i = true → i < p) (h0 : GS s0) {N k : Nat} {x : Int32} (hk : k < N) (hx : ZS p ho zd zt cA s0 k x) (hle : ∀ n : Nat, n < N → ¬ ZP p ho zd zt cA s0 zm n) {r0 r : Nat → Nat} (hF : First p (chX cA x (ho + k) zt) (GR p zd zt zm cA (ho + k) (N - k - 1) x) 0 r0 r) : First p (chX cA x (ho + k) zt) (MQX p (chX cA x (ho + k) zt) (fun s => DX p zd zt zm cA (N - k - 1) (ho + k + 1) (F_X7_stateAfter zd x s))) 0 r0 r := by
  obtain ⟨a1, a2, ⟨n, hn, a3⟩, a4⟩ := hF
  have hgx := zs_gs hp h0 k x hx
  have hle7 : ∀ a : Nat, a < p → r a ≤ 7 := fun a ha => a1.le hp ha
  have hC : s7 (rset r p) := rset_7 hle7
  have hc : ∀ a b : Nat, a < p → b < 32 → bt (chX cA x (ho + k) zt a) b = true → b < p := fun a b ha hb q => by
    unfold chX at q
    by_cases z : hasv (F_X7_knownIn x) (nI a) = 0
    · rw [if_pos z, b_0] at q; cases q
    · rw [if_neg z, b_and, b_and, Bool.and_eq_true, Bool.and_eq_true] at q
      exact hzt b hb q.1.2
  have hmax : rmax p (chX cA x (ho + k) zt) r := by
    refine Classical.byContradiction fun hm => ?_
    have h1 : ∃ a : Nat, a < p ∧ r a = 7 ∧ ¬ chX cA x (ho + k) zt a &&& (rset r p ^^^ (-1 : Int32)) = 0 := by
      refine Classical.byContradiction fun z => hm fun a ha e => ?_
      by_cases q : chX cA x (ho + k) zt a &&& (rset r p ^^^ (-1 : Int32)) = 0
      · exact q
      · exact absurd ⟨a, ha, e, q⟩ z
    obtain ⟨a, ha, e7, hne⟩ := h1
    have h2 : ∃ c : Nat, c < 32 ∧ bt (chX cA x (ho + k) zt a) c = true ∧ bt (rset r p) c = false := by
      refine Classical.byContradiction fun z => hne (b_ext fun i hi => ?_)
      rw [b_and, b_nt _ hi, b_0]
      cases q1 : bt (chX cA x (ho + k) zt a) i with
      | false => rfl
      | true =>
        cases q2 : bt (rset r p) i with
        | true => rfl
        | false => exact absurd ⟨i, hi, q1, q2⟩ z
    obtain ⟨c, hc32, q1, q2⟩ := h2
    have hcp := hc a c ha hc32 q1
    have hfree : ∀ y : Nat, y < p → ¬ r y = c := fun y hy e => by
      have := (rset_bit p hle7 c hc32).mpr ⟨y, hy, e, by omega⟩
      rw [q2] at this; cases this
    have hr2 : RWp p (chX cA x (ho + k) zt) p (rput r a c) := fun y hy => by
      by_cases e : y = a
      · rw [e, rput_eq]
        exact Or.inr ⟨hcp, q1, fun z hz => by rw [rput_ne (by omega)]; exact hfree z (by omega)⟩
      · rw [rput_ne e]
        rcases a1 y hy with z | ⟨z1, z2, z3⟩
        · exact Or.inl z
        · refine Or.inr ⟨z1, z2, fun b hb => ?_⟩
          by_cases e2 : b = a
          · rw [e2, rput_eq]
            exact fun q => hfree y hy q.symm
          · rw [rput_ne e2]; exact z3 b hb
    have hC2 : s7 (rset (rput r a c) p) := rset_7 fun y hy => hr2.le hp hy
    have hsub : ∀ i : Nat, i < 32 → bt (rset r p) i = true → bt (F_X7_knownIn x) i = false → bt (rset (rput r a c) p) i = true := fun i hi q _ => by
      obtain ⟨y, hy, z1, z2⟩ := (rset_bit p hle7 i hi).mp q
      exact (rset_bit p (fun y hy => hr2.le hp hy) i hi).mpr ⟨y, hy, by rw [rput_ne (fun e => z2 (by rw [e]; exact e7))]; exact z1, by rw [rput_ne (fun e => z2 (by rw [e]; exact e7))]; exact z2⟩
    have hdx := dn_dx hp hzt n (ho + k + 1) _ _ (gs_after hgx hC) (gs_after hgx hC2) (le_after (zd := zd) hgx hgx hC hC2 ⟨fun _ _ q => q, fun _ _ q => Or.inr q⟩ hsub) a3
    exact a4 a (Nat.zero_le _) ha (rput r a c) hr2 (fun b hb => rput_lt b hb) (by rw [rput_eq, e7]; omega) ⟨n, hn, dx_dn _ _ _ hdx⟩
  have hS : SetOf p (chX cA x (ho + k) zt) (rset r p) := ⟨r, a1, hmax, rfl⟩
  have hy : ZS p ho zd zt cA s0 (k + 1) (F_X7_stateAfter zd x (rset r p)) := ⟨x, hx, _, hS, rfl⟩
  have hgy := zs_gs hp h0 _ _ hy
  have hdx := dn_dx hp hzt n (ho + k + 1) _ _ hgy hgy ⟨fun _ _ q => q, fun _ _ q => Or.inr q⟩ a3
  have hzp := dx_zp (zm := zm) n (k + 1) _ hy hdx
  have en : n = N - k - 1 := by
    by_cases z : k + 1 + n < N
    · exact absurd hzp (hle _ z)
    · omega
  rw [en] at hdx
  exact ⟨a1, a2, ⟨hmax, hdx⟩, fun a h1 h2 r3 f1 f2 f3 f4 => a4 a h1 h2 r3 f1 f2 f3 ⟨N - k - 1, Nat.le_refl _, dx_dn _ _ _ f4.2⟩⟩
end
section
variable {F : Nat → Nat → Int32} {i ni h : Nat} {w : VV} {gN gR : Nat → Int32} {ka kb : Int32}
theorem rf_path (ok : VOK w) (ow : OWB w) (hr : RP1 F i w) (hK : KNB w) (hni : ni < 4) (h1 : 1 ≤ h) {N : Nat} (hN : h + N ≤ 25) (eN : tN (F_X12_leastFrom (F 8) (F 9) (F 10) (F 11) (F 12) (F 13) (F 14) (F 15) (F 16) (F 17) gN i w.lc w.p ni h).1 = N) (hZP : ZP w.p h w.de (TPw w ni) (cAw w ni) (F_X7_state (w.kn ni) 0) (w.mu ni) N) (hle : ∀ n : Nat, n < N → ¬ ZP w.p h w.de (TPw w ni) (cAw w ni) (F_X7_state (w.kn ni) 0) (w.mu ni) n) (hM : MEMO w.p w.de (TPw w ni) (w.mu ni) (cAw w ni) (F_X12_leastFrom (F 8) (F 9) (F 10) (F 11) (F 12) (F 13) (F 14) (F 15) (F 16) (F 17) gN i w.lc w.p ni h).2) : ∀ k : Nat, k ≤ N → MEMO w.p w.de (TPw w ni) (w.mu ni) (cAw w ni) (L1_X12_found1 (F 8) (F 9) (F 10) (F 11) (F 12) (F 13) (F 14) (F 15) (F 16) (F 17) gN i w.lc w.p ni h 0 (w.kn ni) (F_X12_leastFrom (F 8) (F 9) (F 10) (F 11) (F 12) (F 13) (F 14) (F 15) (F 16) (F 17) gN i w.lc w.p ni h).2 gR ka kb k).2.2.1 ∧ GD2 w.de (L1_X12_found1 (F 8) (F 9) (F 10) (F 11) (F 12) (F 13) (F 14) (F 15) (F 16) (F 17) gN i w.lc w.p ni h 0 (w.kn ni) (F_X12_leastFrom (F 8) (F 9) (F 10) (F 11) (F 12) (F 13) (F 14) (F 15) (F 16) (F 17) gN i w.lc w.p ni h).2 gR ka kb k).2.1 (L1_X12_found1 (F 8) (F 9) (F 10) (F 11) (F 12) (F 13) (F 14) (F 15) (F 16) (F 17) gN i w.lc w.p ni h 0 (w.kn ni) (F_X12_leastFrom (F 8) (F 9) (F 10) (F 11) (F 12) (F 13) (F 14) (F 15) (F 16) (F 17) gN i w.lc w.p ni h).2 gR ka kb k).1 ∧ ZS w.p h w.de (TPw w ni) (cAw w ni) (F_X7_state (w.kn ni) 0) k (F_X7_state (L1_X12_found1 (F 8) (F 9) (F 10) (F 11) (F 12) (F 13) (F 14) (F 15) (F 16) (F 17) gN i w.lc w.p ni h 0 (w.kn ni) (F_X12_leastFrom (F 8) (F 9) (F 10) (F 11) (F 12) (F 13) (F 14) (F 15) (F 16) (F 17) gN i w.lc w.p ni h).2 gR ka kb k).2.1 (L1_X12_found1 (F 8) (F 9) (F 10) (F 11) (F 12) (F 13) (F 14) (F 15) (F 16) (F 17) gN i w.lc w.p ni h 0 (w.kn ni) (F_X12_leastFrom (F 8) (F 9) (F 10) (F 11) (F 12) (F 13) (F 14) (F 15) (F 16) (F 17) gN i w.lc w.p ni h).2 gR ka kb k).1) ∧ DX w.p w.de (TPw w ni) (w.mu ni) (cAw w ni) (N - k) (h + k) (F_X7_state (L1_X12_found1 (F 8) (F 9) (F 10) (F 11) (F 12) (F 13) (F 14) (F 15) (F 16) (F 17) gN i w.lc w.p ni h 0 (w.kn ni) (F_X12_leastFrom (F 8) (F 9) (F 10) (F 11) (F 12) (F 13) (F 14) (F 15) (F 16) (F 17) gN i w.lc w.p ni h).2 gR ka kb k).2.1 (L1_X12_found1 (F 8) (F 9) (F 10) (F 11) (F 12) (F 13) (F 14) (F 15) (F 16) (F 17) gN i w.lc w.p ni h 0 (w.kn ni) (F_X12_leastFrom (F 8) (F 9) (F 10) (F 11) (F 12) (F 13) (F 14) (F 15) (F 16) (F 17) gN i w.lc w.p ni h).2 gR ka kb k).1) ∧ ((k = 0 ∧ F_X7_state (L1_X12_found1 (F 8) (F 9) (F 10) (F 11) (F 12) (F 13) (F 14) (F 15) (F 16) (F 17) gN i w.lc w.p ni h 0 (w.kn ni) (F_X12_leastFrom (F 8) (F 9) (F 10) (F 11) (F 12) (F 13) (F 14) (F 15) (F 16) (F 17) gN i w.lc w.p ni h).2 gR ka kb k).2.1 (L1_X12_found1 (F 8) (F 9) (F 10) (F 11) (F 12) (F 13) (F 14) (F 15) (F 16) (F 17) gN i w.lc w.p ni h 0 (w.kn ni) (F_X12_leastFrom (F 8) (F 9) (F 10) (F 11) (F 12) (F 13) (F 14) (F 15) (F 16) (F 17) gN i w.lc w.p ni h).2 gR ka kb k).1 = F_X7_state (w.kn ni) 0) ∨ ∃ (k' : Nat) (r : Nat → Nat), k = k' + 1 ∧ PTH w.p h w.de (TPw w ni) (w.mu ni) (cAw w ni) (F_X7_state (w.kn ni) 0) N k' (F_X7_state (L1_X12_found1 (F 8) (F 9) (F 10) (F 11) (F 12) (F 13) (F 14) (F 15) (F 16) (F 17) gN i w.lc w.p ni h 0 (w.kn ni) (F_X12_leastFrom (F 8) (F 9) (F 10) (F 11) (F 12) (F 13) (F 14) (F 15) (F 16) (F 17) gN i w.lc w.p ni h).2 gR ka kb k).2.1 (L1_X12_found1 (F 8) (F 9) (F 10) (F 11) (F 12) (F 13) (F 14) (F 15) (F 16) (F 17) gN i w.lc w.p ni h 0 (w.kn ni) (F_X12_leastFrom (F 8) (F 9) (F 10) (F 11) (F 12) (F 13) (F 14) (F 15) (F 16) (F 17) gN i w.lc w.p ni h).2 gR ka kb k).1) r ∧ ∀ a : Nat, a < w.p → (L1_X12_found1 (F 8) (F 9) (F 10) (F 11) (F 12) (F 13) (F 14) (F 15) (F 16) (F 17) gN i w.lc w.p ni h 0 (w.kn ni) (F_X12_leastFrom (F 8) (F 9) (F 10) (F 11) (F 12) (F 13) (F 14) (F 15) (F 16) (F 17) gN i w.lc w.p ni h).2 gR ka kb k).2.2.2.1 a = nI (r a))
  | 0, _ => by
    have hp := ok.1
    have hk := kn_s7 ok hK hni
    have h0 := gs_0 hk
    have hzt : ∀ i : Nat, i < 32 → bt (TPw w ni) i = true → i < w.p := fun i hi q => ((tp_bit ok hi).mp q).1
    exact ⟨hM, ⟨hk, s7_0, and_0r _, fun i _ q => absurd (show bt (0 : Int32) i = true from q) (by rw [b_0]; decide)⟩, rfl, dn_dx hp hzt N h _ _ h0 h0 ⟨fun _ _ q => q, fun _ _ q => Or.inr q⟩ ((zp_dn hp hzt h0).mp hZP), Or.inl ⟨rfl, rfl⟩⟩
  | k + 1, hk => by
    have hp := ok.1
    obtain ⟨i1, i2, i3, i4, i5⟩ := rf_path ok ow hr hK hni h1 hN eN hZP hle hM k (by omega)
    have hk7 := kn_s7 ok hK hni
    have h0 := gs_0 hk7
    have hzt : ∀ i : Nat, i < 32 → bt (TPw w ni) i = true → i < w.p := fun i hi q => ((tp_bit ok hi).mp q).1
    have e : L1_X12_found1 (F 8) (F 9) (F 10) (F 11) (F 12) (F 13) (F 14) (F 15) (F 16) (F 17) gN i w.lc w.p ni h 0 (w.kn ni) (F_X12_leastFrom (F 8) (F 9) (F 10) (F 11) (F 12) (F 13) (F 14) (F 15) (F 16) (F 17) gN i w.lc w.p ni h).2 gR ka kb (k + 1) = L1_X12_found1s (F 8) (F 9) (F 10) (F 11) (F 12) (F 13) (F 14) (F 15) (F 16) (F 17) gN i w.lc w.p ni h k (L1_X12_found1 (F 8) (F 9) (F 10) (F 11) (F 12) (F 13) (F 14) (F 15) (F 16) (F 17) gN i w.lc w.p ni h 0 (w.kn ni) (F_X12_leastFrom (F 8) (F 9) (F 10) (F 11) (F 12) (F 13) (F 14) (F 15) (F 16) (F 17) gN i w.lc w.p ni h).2 gR ka kb k).1 (L1_X12_found1 (F 8) (F 9) (F 10) (F 11) (F 12) (F 13) (F 14) (F 15) (F 16) (F 17) gN i w.lc w.p ni h 0 (w.kn ni) (F_X12_leastFrom (F 8) (F 9) (F 10) (F 11) (F 12) (F 13) (F 14) (F 15) (F 16) (F 17) gN i w.lc w.p ni h).2 gR ka kb k).2.1 (L1_X12_found1 (F 8) (F 9) (F 10) (F 11) (F 12) (F 13) (F 14) (F 15) (F 16) (F 17) gN i w.lc w.p ni h 0 (w.kn ni) (F_X12_leastFrom (F 8) (F 9) (F 10) (F 11) (F 12) (F 13) (F 14) (F 15) (F 16) (F 17) gN i w.lc w.p ni h).2 gR ka kb k).2.2.1 (L1_X12_found1 (F 8) (F 9) (F 10) (F 11) (F 12) (F 13) (F 14) (F 15) (F 16) (F 17) gN i w.lc w.p ni h 0 (w.kn ni) (F_X12_leastFrom (F 8) (F 9) (F 10) (F 11) (F 12) (F 13) (F 14) (F 15) (F 16) (F 17) gN i w.lc w.p ni h).2 gR ka kb k).2.2.2.1 (L1_X12_found1 (F 8) (F 9) (F 10) (F 11) (F 12) (F 13) (F 14) (F 15) (F 16) (F 17) gN i w.lc w.p ni h 0 (w.kn ni) (F_X12_leastFrom (F 8) (F 9) (F 10) (F 11) (F 12) (F 13) (F 14) (F 15) (F 16) (F 17) gN i w.lc w.p ni h).2 gR ka kb k).2.2.2.2.1 (L1_X12_found1 (F 8) (F 9) (F 10) (F 11) (F 12) (F 13) (F 14) (F 15) (F 16) (F 17) gN i w.lc w.p ni h 0 (w.kn ni) (F_X12_leastFrom (F 8) (F 9) (F 10) (F 11) (F 12) (F 13) (F 14) (F 15) (F 16) (F 17) gN i w.lc w.p ni h).2 gR ka kb k).2.2.2.2.2 := rfl
    rw [e]
    generalize L1_X12_found1 (F 8) (F 9) (F 10) (F 11) (F 12) (F 13) (F 14) (F 15) (F 16) (F 17) gN i w.lc w.p ni h 0 (w.kn ni) (F_X12_leastFrom (F 8) (F 9) (F 10) (F 11) (F 12) (F 13) (F 14) (F 15) (F 16) (F 17) gN i w.lc w.p ni h).2 gR ka kb k = s at i1 i2 i3 i4 i5 ⊢
    unfold L1_X12_found1s
    rw [eN, (hr.2.2.2.1 ni hni).2.1, (hr.2.2.2.1 ni hni).2.2]
    have g := lw_all (zm := w.mu ni) (p := w.p) (rD := F 8) (i := i) (left := N - k - 1) (h := h + k) hp hr.2.2.1 (chh_of (nw := ni) ok ow hr) (by omega) (by omega) (by omega) i2 w.p 0 (by omega) (fun _ => 7) (fun a ha => absurd ha (Nat.not_lt_zero _)) 0 (fun b hb => ⟨fun q => (by rw [b_0] at q; cases q), fun ⟨_, q, _⟩ => absurd q (Nat.not_lt_zero _)⟩) s.2.2.1 s.2.2.2.1 s.2.2.2.2.1 s.2.2.2.2.2 i1
    have g : LWP w.p w.de (TPw w ni) (w.mu ni) (cAw w ni) (h + k) (N - k - 1) s.2.1 s.1 0 (fun _ => 7) s.2.2.2.1 (LW (w.mu ni) (w.mn ni) (h + k) i s.2.1 w.lc (nI (N - k - 1)) s.1 w.p (F 12) (F 13) (F 8) (F 14) (F 17) (F 15) (F 16) w.p 0 0 0 s.2.2.1 s.2.2.2.1 s.2.2.2.2.1 s.2.2.2.2.2) := g
    generalize LW (w.mu ni) (w.mn ni) (h + k) i s.2.1 w.lc (nI (N - k - 1)) s.1 w.p (F 12) (F 13) (F 8) (F 14) (F 17) (F 15) (F 16) w.p 0 0 0 s.2.2.1 s.2.2.2.1 s.2.2.2.2.1 s.2.2.2.2.2 = u at g ⊢
    try dsimp only
    obtain ⟨g1, -, g3⟩ := g
    have hD2 : DX w.p w.de (TPw w ni) (w.mu ni) (cAw w ni) (N - k - 1 + 1) (h + k) (F_X7_state s.2.1 s.1) := by
      rw [show N - k - 1 + 1 = N - k by omega]
      exact i4
    obtain ⟨K, ⟨rk, k1, k2, k3⟩, k4⟩ := hD2
    rcases g3 with ⟨-, r, g4, g5, g6, g7⟩ | ⟨-, z⟩
    · have hF := gr_first hp hzt h0 (show k < N by omega) i3 hle g4
      have hS : SetOf w.p (chX (cAw w ni) (F_X7_state s.2.1 s.1) (h + k) (TPw w ni)) (rset r w.p) := ⟨r, hF.1, hF.2.2.1.1, rfl⟩
      refine ⟨g1, g6, ?_, ?_, Or.inr ⟨k, r, rfl, ?_, fun a ha => g5 a (Nat.zero_le _) ha⟩⟩
      · rw [g7]; exact ⟨_, i3, _, hS, rfl⟩
      · rw [g7, show N - (k + 1) = N - k - 1 by omega, show h + (k + 1) = h + k + 1 by omega]
        exact hF.2.2.1.2
      · rw [g7]
        rcases i5 with ⟨z1, z2⟩ | ⟨k', r0, z1, z2, -⟩
        · subst z1
          rw [z2] at hF ⊢
          exact ⟨hF, rfl⟩
        · subst z1
          exact ⟨_, r0, z2, hF, rfl⟩
    · exact absurd ⟨N - k - 1, Nat.le_refl _, dx_dn _ _ _ (by rw [k3]; exact k4)⟩ (z rk k1 fun a ha => absurd ha (Nat.not_lt_zero _))
theorem fd_refM {t : Int32} {o : Nat} (ok : VOK w) (ow : OWB w) (hr : RP1 F i w) (hK : KNB w) (hni : ni < 4) (h1 : 1 ≤ h) (h2 : h ≤ 24) (ho : o < w.p) : (F_X12_found1 (F 8) (F 9) (F 10) (F 11) (F 12) (F 13) (F 14) (F 15) (F 16) (F 17) gN gR ka kb i w.lc w.p ni h t o).1 = fdA w (nI ni) (nI h) t (nI o) := by
  have hp := ok.1
  obtain ⟨r9, r10, r11⟩ := hr.2.2.2.1 ni hni
  have hk := kn_s7 ok hK hni
  have hg : GD2 w.de (w.kn ni) 0 := ⟨hk, s7_0, and_0r _, fun i _ q => by rw [b_0] at q; cases q⟩
  have hM : MEMO w.p w.de (TPw w ni) (w.mu ni) (cAw w ni) (F_X12_ask gN) := fun h k o a1 a2 hg => by
    have b1 := (s7_num hg.1).2
    have b2 := (s7_num hg.2.1).2
    exact Or.inl (ask_0 425984 _ (by omega))
  have q := nd_MV (zm := w.mu ni) hp (rD := F 8) (i := i) hr.2.2.1 (chh_of (nw := ni) ok ow hr) (25 - h) (by omega) _ _ _ hg hM
  rw [show 25 - (25 - h) = h by omega] at q
  have hv : MV (ZP w.p h w.de (TPw w ni) (cAw w ni) (F_X7_state (w.kn ni) 0) (w.mu ni)) (25 - h) (F_X12_leastFrom (F 8) (F 9) (F 10) (F 11) (F 12) (F 13) (F 14) (F 15) (F 16) (F 17) gN i w.lc w.p ni h).1 := by
    have q2 := q.1.iff fun n => (zp_dn (ho := h) (n := n) hp (fun i hi q => ((tp_bit ok hi).mp q).1) (gs_0 hk)).symm
    unfold F_X12_leastFrom
    rw [r9, r10, r11]
    exact q2
  have hMe : MEMO w.p w.de (TPw w ni) (w.mu ni) (cAw w ni) (F_X12_leastFrom (F 8) (F 9) (F 10) (F 11) (F 12) (F 13) (F 14) (F 15) (F 16) (F 17) gN i w.lc w.p ni h).2 := by
    unfold F_X12_leastFrom
    rw [r9, r10, r11]
    exact q.2
  have els : lsN w ni h = if (F_X12_leastFrom (F 8) (F 9) (F 10) (F 11) (F 12) (F 13) (F 14) (F 15) (F 16) (F 17) gN i w.lc w.p ni h).1 = 99 then -1 else (F_X12_leastFrom (F 8) (F 9) (F 10) (F 11) (F 12) (F 13) (F 14) (F 15) (F 16) (F 17) gN i w.lc w.p ni h).1 := (lsV_eq (mv_lsa (by omega) hv)).symm
  have hperson : ¬ F_X10_hasPerson (nI w.p) (nI o) = 0 := by
    unfold F_X10_hasPerson
    rw [if_neg (show ¬ nI o < (0 : Int32) from fun q => absurd ((nI_ltI (a := o) (b := 0) (by omega) (by omega)).mp q) (Nat.not_lt_zero _)), if_neg (fun q => by
      have := (nI_leI (a := w.p) (b := o) (by omega) (by omega)).mp q
      omega)]
    decide
  have eA : 0 ≤ t → fdA w (nI ni) (nI h) t (nI o) = Classical.epsilon (FDV w ni h t o) := fun ht => by
    unfold fdA
    rw [if_neg (show ¬ F_X11_isNews (nI ni) = 0 from news_ok hni), if_neg (show ¬ F_X11_isHour (nI h) = 0 from hour_ok h1 h2), if_neg (Int32.not_lt.mpr ht), if_neg hperson, tN_nI (show ni < 2 ^ 31 by omega), tN_nI (show h < 2 ^ 31 by omega), tN_nI (show o < 2 ^ 31 by omega)]
  have eN : t < 0 → fdA w (nI ni) (nI h) t (nI o) = -1 := fun ht => by
    unfold fdA
    rw [if_neg (show ¬ F_X11_isNews (nI ni) = 0 from news_ok hni), if_neg (show ¬ F_X11_isHour (nI h) = 0 from hour_ok h1 h2), if_pos ht]
  unfold F_X12_found1
  rw [r9]
  rcases hv with ⟨v1, v2⟩ | ⟨N, hN, v2, v3, v4⟩
  · rw [if_pos v1]
    by_cases ht : t < 0
    · rw [eN ht]
    · rw [eA (Int32.not_lt.mp ht)]
      refine fdV_eq ho (Or.inr ⟨fun N _ q => ?_, rfl⟩)
      rw [els, if_pos v1] at q
      exact absurd q (m1_ne (by omega))
  · have h99 : ¬ (F_X12_leastFrom (F 8) (F 9) (F 10) (F 11) (F 12) (F 13) (F 14) (F 15) (F 16) (F 17) gN i w.lc w.p ni h).1 = 99 := fun q => by
      rw [v2] at q
      have := (nI_eq (a := N) (b := 99) (by omega) (by omega)).mp q
      omega
    have e2 : tN (F_X12_leastFrom (F 8) (F 9) (F 10) (F 11) (F 12) (F 13) (F 14) (F 15) (F 16) (F 17) gN i w.lc w.p ni h).1 = N := by rw [v2, tN_nI (by omega)]
    rw [if_neg h99]
    by_cases c : F_X12_isIn t 0 ((F_X12_leastFrom (F 8) (F 9) (F 10) (F 11) (F 12) (F 13) (F 14) (F 15) (F 16) (F 17) gN i w.lc w.p ni h).1 - 1) = 0
    · rw [if_pos c]
      by_cases ht : t < 0
      · rw [eN ht]
      · rw [eA (Int32.not_lt.mp ht)]
        refine fdV_eq ho (Or.inr ⟨fun N2 h3 q hk2 => ?_, rfl⟩)
        rw [els, if_neg h99, v2] at q
        have e3 := (nI_eq (a := N) (b := N2) (by omega) (by omega)).mp q
        rw [← e3] at hk2
        obtain ⟨et, et2⟩ := nn_at (Int32.not_lt.mp ht)
        have e4 : nI N - 1 = nI (N - 1) := pk_sub (a := N) (b := 1) (by omega)
        rw [v2, e4] at c
        unfold F_X12_isIn at c
        rw [if_neg ht, if_neg (fun z => by
          rw [et] at z
          have := (nI_ltI (a := N - 1) (b := tN t) (by omega) (by omega)).mp z
          omega)] at c
        exact absurd c (by decide)
    · rw [if_neg c]
      have hv5 := i0n_at (v := (F_X12_leastFrom (F 8) (F 9) (F 10) (F 11) (F 12) (F 13) (F 14) (F 15) (F 16) (F 17) gN i w.lc w.p ni h).1) ⟨by rw [e2]; exact v2, by omega⟩ c
      rw [e2] at hv5
      obtain ⟨w1, w2, w3⟩ := hv5
      have hrf := rf_path (gR := gR) (ka := ka) (kb := kb) ok ow hr hK hni h1 (show h + N ≤ 25 by omega) e2 v3 v4 hMe (tN t + 1) (by omega)
      obtain ⟨-, -, -, -, i5⟩ := hrf
      rcases i5 with ⟨z, -⟩ | ⟨k', r, z1, z2, z3⟩
      · omega
      · have ek : k' = tN t := by omega
        rw [ek] at z2
        have h0t : (0 : Int32) ≤ t := (in_at c).1
        rw [eA h0t]
        refine fdV_eq ho (Or.inl ⟨N, _, r, by omega, by rw [els, if_neg h99]; exact v2, w3, z2, ?_⟩)
        exact z3 o ho
end
theorem fd_bad {nv : Nat} {V : Nat → VV} {F : Nat → Nat → Int32} {x y z t u : Int32} (hnv : nv ≤ 10) (hV : RPW nv V F) (h : F_X12_isAsked nv x y = 0 ∨ F_X12_isHour z = 0 ∨ F_X12_isPerson (F 6) (tN x) u = 0) : vAns nv V x (-1) (fun w => fdA w y z t u) = -1 := by
  rcases vin_cases (n := nv) (by omega) x with hb | ⟨i, hi, rfl⟩
  · rw [vAns_no hb]
  · rw [vAns_ok hnv hi]
    obtain ⟨ok, hr⟩ := hV i hi
    have hp := ok.1
    unfold fdA
    by_cases c1 : F_X11_isNews y = 0
    · rw [if_pos c1]
    · rw [if_neg c1]
      by_cases c2 : F_X11_isHour z = 0
      · rw [if_pos c2]
      · rw [if_neg c2]
        by_cases c3 : t < 0
        · rw [if_pos c3]
        · rw [if_neg c3]
          rcases h with h | h | h
          · exfalso
            unfold F_X12_isAsked at h
            rw [if_neg (rv_yes hnv hi), if_neg (show ¬ F_X12_isNews y = 0 from c1)] at h
            exact absurd h (by decide)
          · exact absurd h c2
          · by_cases c4 : F_X10_hasPerson (nI (V i).p) u = 0
            · rw [if_pos c4]
            · exfalso
              obtain ⟨eu, hu⟩ := hp_at (n := (V i).p) (by omega) c4
              rw [eu, tN_nI (show i < 2 ^ 31 by omega)] at h
              exact per_ok hp hr.1 hu h
theorem fd0_val {nv : Nat} {rP : Nat → Int32} {x y z u : Int32} : F_X12_found0 nv rP x y z u = -1 := by
  unfold F_X12_found0
  (repeat' split) <;> rfl

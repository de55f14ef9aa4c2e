/-! who can have begun: the class's hours -/
section
variable {p ni j2 : Nat} {zd zt x0 : Int32} {cA pw ta : Nat → Int32} {pe : Nat}
theorem sp_LS (hpw : PWT pw) (hp : p ≤ 7) {ho : Nat} (h32 : ho < 32) {x du la zi1 rc rp : Int32} {ct nx S O M C : Nat → Int32} (hx : GS x) (hI : RI S M rc) {Z : Int32 → Prop} (hZ : ∀ y : Int32, Z y → GS y) (h : LSV pw ct nx zi1 ho Z) :
    LSV pw (F_X7_spreadAsTold p zd zt zi1 cA pw ct nx S O M C rc rp x ho du la).1 (F_X7_spreadAsTold p zd zt zi1 cA pw ct nx S O M C rc rp x ho du la).2.1 (F_X7_spreadAsTold p zd zt zi1 cA pw ct nx S O M C rc rp x ho du la).2.2.1 ho (fun y => Z y ∨ STw p zd zt cA ho du la x y) ∧ (∀ q t : Nat, t < 32 → ¬ t = ho → bt ((F_X7_spreadAsTold p zd zt zi1 cA pw ct nx S O M C rc rp x ho du la).1 q) t = bt (ct q) t) := by
  unfold F_X7_spreadAsTold
  by_cases c : du &&& (F_X7_understands zd x ^^^ (-1 : Int32)) = 0
  · rw [if_pos c]
    obtain ⟨f1, f2⟩ := fR_sets (cA := cA) (O := O) (fC := C) (x := x) (ho := ho) (tg := tgW zd zt la x) hp hI
    obtain ⟨g1, g2⟩ := ab_LS hpw h32 hx (S := (F_X7_findRows p cA S O M C rc x ho (tgW zd zt la x)).1) (zd := zd) (fo := du) hZ h (tN (F_X7_findRows p cA S O M C rc x ho (tgW zd zt la x)).2.2.2.2) (fun i hi => (f1 i hi).s7 hp)
    refine ⟨LSV.iff (show LSV pw _ _ _ _ _ from g1) fun y => ?_, fun q t ht hne => (show _ = _ from g2 q t ht hne)⟩
    constructor
    · rintro (a | ⟨i, hi, a, b⟩)
      · exact Or.inl a
      · exact Or.inr ⟨c, _, f1 i hi, a, b⟩
    · rintro (a | ⟨-, K, hK, a, b⟩)
      · exact Or.inl a
      · obtain ⟨i, hi, q⟩ := f2 K hK
        exact Or.inr ⟨i, hi, by rw [q]; exact a, by rw [q]; exact b⟩
  · rw [if_neg c]
    exact ⟨h.iff fun y => ⟨Or.inl, fun a => a.elim id fun b => absurd b.1 c⟩, fun _ _ _ _ => rfl⟩
theorem st_gs (hp : p ≤ 7) {h : Nat} {du la x y : Int32} (hx : GS x) (q : STw p zd zt cA h du la x y) : GS y := by
  obtain ⟨-, C, hC, -, rfl⟩ := q
  exact gs_after hx (hC.s7 hp)
abbrev DUw (p ni : Nat) (ta : Nat → Int32) (h : Nat) : Int32 := F_X10_whoseTaleIs p ni (nI h) ta
def LAw (p ni : Nat) (ta : Nat → Int32) (a : Int32) : Nat → Int32
  | 0 => a
  | h + 1 => LAw p ni ta a h &&& (DUw p ni ta (h + 1) ^^^ (-1 : Int32))
theorem l3_LS (hpw : PWT pw) (hp : p ≤ 7) {N : Nat} {now ct nx S O M C : Nat → Int32} {x5 y3 y5 : Int32} (h32 : j2 + 1 < 32) (hg : ∀ i : Nat, i < N → GS (now i)) (hI : RI S M y3) (hf : ∀ q : Nat, q < 2187 → bt (ct q) (j2 + 1) = false) : ∀ k : Nat, k ≤ N →
    LSV pw (L3_X7_canHaveBegun p zd zt cA pw pe ta ni j2 x5 now ct nx S O M C 0 y3 y5 k).1 (L3_X7_canHaveBegun p zd zt cA pw pe ta ni j2 x5 now ct nx S O M C 0 y3 y5 k).2.1 (L3_X7_canHaveBegun p zd zt cA pw pe ta ni j2 x5 now ct nx S O M C 0 y3 y5 k).2.2.2.2.2.2.1 (j2 + 1) (fun y => ∃ i : Nat, i < k ∧ STw p zd zt cA (j2 + 1) (DUw pe ni ta (j2 + 1)) (x5 &&& (DUw pe ni ta (j2 + 1) ^^^ (-1 : Int32))) (now i) y) ∧
    (∀ q t : Nat, t < 32 → ¬ t = j2 + 1 → bt ((L3_X7_canHaveBegun p zd zt cA pw pe ta ni j2 x5 now ct nx S O M C 0 y3 y5 k).1 q) t = bt (ct q) t) ∧
    RI (L3_X7_canHaveBegun p zd zt cA pw pe ta ni j2 x5 now ct nx S O M C 0 y3 y5 k).2.2.1 (L3_X7_canHaveBegun p zd zt cA pw pe ta ni j2 x5 now ct nx S O M C 0 y3 y5 k).2.2.2.2.1 (L3_X7_canHaveBegun p zd zt cA pw pe ta ni j2 x5 now ct nx S O M C 0 y3 y5 k).2.2.2.2.2.2.2.1
  | 0, _ => ⟨(LS_none hf).iff fun y => ⟨fun z => z.elim, fun ⟨_, z, _⟩ => absurd z (Nat.not_lt_zero _)⟩, fun _ _ _ _ => rfl, hI⟩
  | k + 1, hk => by
    obtain ⟨ih, ib, ir⟩ := l3_LS hpw hp (nx := nx) (O := O) (C := C) (x5 := x5) (y5 := y5) h32 hg hI hf k (by omega)
    have e : L3_X7_canHaveBegun p zd zt cA pw pe ta ni j2 x5 now ct nx S O M C 0 y3 y5 (k + 1) = L3_X7_canHaveBeguns p zd zt cA pw pe ta ni j2 x5 now k (L3_X7_canHaveBegun p zd zt cA pw pe ta ni j2 x5 now ct nx S O M C 0 y3 y5 k).1 (L3_X7_canHaveBegun p zd zt cA pw pe ta ni j2 x5 now ct nx S O M C 0 y3 y5 k).2.1 (L3_X7_canHaveBegun p zd zt cA pw pe ta ni j2 x5 now ct nx S O M C 0 y3 y5 k).2.2.1 (L3_X7_canHaveBegun p zd zt cA pw pe ta ni j2 x5 now ct nx S O M C 0 y3 y5 k).2.2.2.1 (L3_X7_canHaveBegun p zd zt cA pw pe ta ni j2 x5 now ct nx S O M C 0 y3 y5 k).2.2.2.2.1 (L3_X7_canHaveBegun p zd zt cA pw pe ta ni j2 x5 now ct nx S O M C 0 y3 y5 k).2.2.2.2.2.1 (L3_X7_canHaveBegun p zd zt cA pw pe ta ni j2 x5 now ct nx S O M C 0 y3 y5 k).2.2.2.2.2.2.1 (L3_X7_canHaveBegun p zd zt cA pw pe ta ni j2 x5 now ct nx S O M C 0 y3 y5 k).2.2.2.2.2.2.2.1 (L3_X7_canHaveBegun p zd zt cA pw pe ta ni j2 x5 now ct nx S O M C 0 y3 y5 k).2.2.2.2.2.2.2.2 := rfl
    rw [e]
    generalize L3_X7_canHaveBegun p zd zt cA pw pe ta ni j2 x5 now ct nx S O M C 0 y3 y5 k = u at ih ib ir ⊢
    have hgk := hg k (by omega)
    have hZ : ∀ y : Int32, (∃ i : Nat, i < k ∧ STw p zd zt cA (j2 + 1) (DUw pe ni ta (j2 + 1)) (x5 &&& (DUw pe ni ta (j2 + 1) ^^^ (-1 : Int32))) (now i) y) → GS y := fun y hy => by
      obtain ⟨i, hi, q⟩ := hy
      exact st_gs hp (hg i (by omega)) q
    obtain ⟨g1, g2⟩ := sp_LS hpw hp (zd := zd) (zt := zt) (cA := cA) (O := u.2.2.2.1) (C := u.2.2.2.2.2.1) (rp := u.2.2.2.2.2.2.2.2) (du := DUw pe ni ta (j2 + 1)) (la := x5 &&& (DUw pe ni ta (j2 + 1) ^^^ (-1 : Int32))) h32 hgk ir hZ ih
    have g3 := (st_ok (zp := p) (ho := j2 + 1) (zd := zd) (zt := zt) (zi1 := u.2.2.2.2.2.2.1) (rp := u.2.2.2.2.2.2.2.2) (x := now k) (du := DUw pe ni ta (j2 + 1)) (la := x5 &&& (DUw pe ni ta (j2 + 1) ^^^ (-1 : Int32))) (cA := cA) (pw := pw) (ct := u.1) (nx := u.2.1) (O := u.2.2.2.1) (C := u.2.2.2.2.2.1) hp ir ih.1).1
    unfold L3_X7_canHaveBeguns
    refine ⟨LSV.iff (show LSV pw _ _ _ _ _ from g1) fun y => ?_, fun q t ht hne => (show _ = _ from g2 q t ht hne).trans (ib q t ht hne), show RI _ _ _ from g3⟩
    constructor
    · rintro (⟨i, hi, a⟩ | a)
      · exact ⟨i, by omega, a⟩
      · exact ⟨k, by omega, a⟩
    · rintro ⟨i, hi, a⟩
      by_cases y2 : i = k
      · rw [y2] at a
        exact Or.inr a
      · exact Or.inl ⟨i, by omega, a⟩
theorem ws_back {D L : Nat → Int32} {h : Nat} : ∀ d : Nat, (∃ y : Int32, WSx p zd zt cA D L x0 (h + d) y) → ∃ y : Int32, WSx p zd zt cA D L x0 h y
  | 0, q => q
  | d + 1, q => by
    have q : ∃ y : Int32, WSx p zd zt cA D L x0 (h + d + 1) y := q
    obtain ⟨y, x, hx, -⟩ := q
    exact ws_back d ⟨x, hx⟩
theorem wh_main (hpw : PWT pw) (hp : p ≤ 7) {x4 a0 : Int32} (h4 : tN x4 ≤ 24) (h0 : GS x0) : ∀ (m j : Nat) (x5 : Int32) (ct now nx S O M C : Nat → Int32) (y12 y3 y5 : Int32) (p10 p11 : Nat), tN x4 < m + j → j ≤ tN x4 → RI S M y3 → NC y12 → x5 = LAw pe ni ta a0 j → (∀ i : Nat, i < tN y12 → WSx p zd zt cA (DUw pe ni ta) (LAw pe ni ta a0) x0 j (now i)) → (∀ x : Int32, WSx p zd zt cA (DUw pe ni ta) (LAw pe ni ta a0) x0 j x → ∃ i : Nat, i < tN y12 ∧ now i = x) → (∀ q t : Nat, q < 2187 → j < t → t < 32 → bt (ct q) t = false) → (¬ (L2_X7_canHaveBegun p zd zt cA pw pe ta ni x4 m j x5 ct now nx S O M C y12 y3 y5 p10 p11).1 = 0 ↔ ∃ y : Int32, WSx p zd zt cA (DUw pe ni ta) (LAw pe ni ta a0) x0 (tN x4) y)
  | 0, j, _, _, _, _, _, _, _, _, _, _, _, _, _, h, h2, _, _, _, _, _, _ => absurd h (by omega)
  | m + 1, j, x5, ct, now, nx, S, O, M, C, y12, y3, y5, p10, p11, h, h2, h3, hN, h5, h6, h7, h8 => by
    rw [L2_X7_canHaveBegun]
    have hN2 := hN.2
    have hemp : nI (tN y12) ≤ 0 ↔ tN y12 = 0 := by
      have := nI_leI (a := tN y12) (b := 0) (by omega) (by omega)
      exact this.trans ⟨fun q => by omega, fun q => by omega⟩
    have hno : tN y12 = 0 → ¬ ∃ y : Int32, WSx p zd zt cA (DUw pe ni ta) (LAw pe ni ta a0) x0 j y := fun q ⟨y, hy⟩ => by
      obtain ⟨i, hi, -⟩ := h7 y hy
      omega
    by_cases c1 : nI (tN x4) < nI (j + 1)
    · rw [if_pos c1]
      have z : tN x4 < j + 1 := (nI_ltI (by omega) (by omega)).mp c1
      have ej : j = tN x4 := by omega
      rw [ej] at hno h6
      by_cases c2 : nI (tN y12) ≤ 0
      · rw [if_pos c2]
        exact ⟨fun q => absurd rfl q, fun q => absurd q (hno (hemp.mp c2))⟩
      · rw [if_neg c2]
        have hpos : 0 < tN y12 := by
          have : ¬ tN y12 = 0 := fun q => c2 (hemp.mpr q)
          omega
        exact ⟨fun _ => ⟨_, h6 0 hpos⟩, fun _ => show ¬ (1 : Int32) = 0 by decide⟩
    · rw [if_neg c1]
      have hj : j + 1 ≤ tN x4 := by
        by_cases z : j + 1 ≤ tN x4
        · exact z
        · exact absurd ((nI_ltI (a := tN x4) (b := j + 1) (by omega) (by omega)).mpr (by omega)) c1
      by_cases c2 : nI (tN y12) ≤ 0
      · rw [if_pos c2, if_pos c2]
        refine ⟨fun q => absurd rfl q, fun q => absurd ?_ (hno (hemp.mp c2))⟩
        refine ws_back (tN x4 - j) ?_
        rw [show j + (tN x4 - j) = tN x4 by omega]
        exact q
      · rw [if_neg c2]
        have hg : ∀ i : Nat, i < tN y12 → GS (now i) := fun i hi => ws_gs hp h0 j _ (h6 i hi)
        obtain ⟨g1, g2, g3⟩ := l3_LS hpw hp (zd := zd) (zt := zt) (cA := cA) (pe := pe) (ni := ni) (ta := ta) (now := now) (ct := ct) (nx := nx) (O := O) (C := C) (x5 := x5) (y5 := y5) (j2 := j) (by omega) hg h3 (fun q hq => h8 q (j + 1) hq (by omega) (by omega)) (tN y12) (Nat.le_refl _)
        generalize L3_X7_canHaveBegun p zd zt cA pw pe ta ni j x5 now ct nx S O M C 0 y3 y5 (tN y12) = u at g1 g2 g3 ⊢
        obtain ⟨k1, k2, k3, -, -⟩ := g1
        have eL : x5 &&& (DUw pe ni ta (j + 1) ^^^ (-1 : Int32)) = LAw pe ni ta a0 (j + 1) := by rw [h5]; rfl
        rw [eL] at k2 k3
        have hz : ∀ y : Int32, (∃ i : Nat, i < tN y12 ∧ STw p zd zt cA (j + 1) (DUw pe ni ta (j + 1)) (LAw pe ni ta a0 (j + 1)) (now i) y) ↔ WSx p zd zt cA (DUw pe ni ta) (LAw pe ni ta a0) x0 (j + 1) y := fun y => by
          constructor
          · rintro ⟨i, hi, e⟩
            exact ⟨now i, h6 i hi, e⟩
          · rintro ⟨x, hx, e⟩
            obtain ⟨i, hi, q⟩ := h7 x hx
            exact ⟨i, hi, by rw [q]; exact e⟩
        exact wh_main hpw hp h4 h0 m (j + 1) _ _ _ _ _ _ _ _ _ _ _ _ _ (by omega) hj g3 k1 eL (fun i hi => (hz _).mp (k2 i hi)) (fun x hx => k3 x ((hz x).mpr hx)) (fun q t hq ht1 ht2 => by
          rw [g2 q t ht2 (by omega)]
          exact h8 q t hq (by omega) ht2)
end

/-! trade: the answer -/
noncomputable def tdV (w : VV) (n : Nat) : Int32 := Classical.epsilon (MFr 1000 (TP (Ow w) 33825 n (F_X9_goal w.p)))
noncomputable def tdA (w : VV) (y z : Int32) : Int32 := if 4 < nI w.p then -1 else if y < 1 then -1 else if 8 < y then -1 else if z < 0 then -1 else if z ≤ 1 then (if tdV w (tN y) = 1000 then -1 else if z = 0 then tdV w (tN y) else if tN y ≤ 1 then 1 else if tdV w (tN y - 1) = tdV w (tN y) then 0 else 1) else -1
theorem tdV_eq {w : VV} {n : Nat} {v : Int32} (h : MFr 1000 (TP (Ow w) 33825 n (F_X9_goal w.p)) v) : v = tdV w n := MFr.uniq far_1000 h (Classical.epsilon_spec (p := MFr 1000 (TP (Ow w) 33825 n (F_X9_goal w.p))) ⟨v, h⟩)
theorem mf_far {far : Int32} (hf : ∀ n : Nat, n ≤ 18 → nI n < far) {P : Nat → Prop} {v : Int32} (h : MFr far P v) : far ≤ v ↔ v = far := by
  rcases h with ⟨a1, -⟩ | ⟨n, a1, a2, -, -⟩
  · exact ⟨fun _ => a1, fun _ => by rw [a1]; exact Int32.le_refl _⟩
  · have := hf n (by omega)
    rw [a2]
    constructor
    · intro q; exact absurd this (Int32.not_lt.mpr q)
    · intro q; rw [q]; exact Int32.le_refl _
theorem mf_ne {far : Int32} {P : Nat → Prop} {v : Int32} (h : MFr far P v) (hv : ¬ v = far) : ∃ n : Nat, n ≤ 16 ∧ v = nI n ∧ P n ∧ ∀ k : Nat, k < n → ¬ P k := by
  rcases h with ⟨a1, -⟩ | z
  · exact absurd a1 hv
  · exact z
theorem td_fc {w : VV} (ok : VOK w) (hp4 : w.p ≤ 4) {n tn tx : Nat} (hn : n ≤ 8) {fx fo : Nat → Int32} : MFr 1000 (TP (Ow w) 33825 n (F_X9_goal w.p)) (tdV w n) ∧ (F_X9_fewestCalls tn tx fx fo w.p w.lc w.L n).1 = if 1000 ≤ tdV w n then -1 else tdV w n := by
  have hg := goal_9 w.p (by omega)
  have hb : CST 4096 1000 st9 (TP (Ow w) 33825 0) (upd (fun _ => 1000) (tN (F_X9_placeOf 33825)) 0) := beg_cst pls9 own_D9 fun q _ => rfl
  obtain ⟨v, h1, h2⟩ := fc_cls (O := Ow w) (pe := w.p) (lc := w.lc) (L := w.L) hn (fun h _ fo c hc => la_open ok hc) ⟨fun i a b => hg.1 i b a, hg.2⟩ (fun f g q hq => cpy_at f g q hq) (n + 1) 0 (upd (fun _ => 1000) (tN (F_X9_placeOf (33825 : Int32))) (0 : Int32)) fx fo tn tx (by omega) (Nat.zero_le _) hb
  have e := tdV_eq h1
  rw [e] at h1 h2
  exact ⟨h1, h2⟩
theorem td_cls {w : VV} (ok : VOK w) {tn tx : Nat} {fn fx fo : Nat → Int32} {y z : Int32} : (F_X11_trade1 tn tx fn fx fo w.p w.lc w.L y z).1 = tdA w y z := by
  have hp := ok.1
  unfold F_X11_trade1 tdA
  by_cases c1 : 4 < nI w.p
  · rw [if_pos c1, if_pos c1]
  · rw [if_neg c1, if_neg c1]
    have hp4 : w.p ≤ 4 := Nat.le_of_not_lt fun q9 => c1 ((nI_ltI (a := 4) (b := w.p) (by omega) (by omega)).mpr q9)
    by_cases c2 : y < 1
    · rw [if_pos c2, if_pos c2]
    · rw [if_neg c2, if_neg c2]
      by_cases c3 : 8 < y
      · rw [if_pos c3, if_pos c3]
      · rw [if_neg c3, if_neg c3]
        by_cases c4 : z < 0
        · rw [if_pos c4, if_pos c4]
        · rw [if_neg c4, if_neg c4]
          by_cases c5 : z ≤ 1
          · rw [if_pos c5, if_pos c5]
            obtain ⟨-, y1, y2⟩ := h8_at c2 c3
            obtain ⟨g1, g2⟩ := td_fc ok hp4 (n := tN y) (tn := tn) (tx := tx) (fx := fx) (fo := fo) y2
            obtain ⟨g3, g4⟩ := td_fc ok hp4 (n := tN y - 1) (tn := (F_X9_fewestCalls tn tx fx fo w.p w.lc w.L (tN y)).2.1) (tx := (F_X9_fewestCalls tn tx fx fo w.p w.lc w.L (tN y)).2.2.1) (fx := (F_X9_fewestCalls tn tx fx fo w.p w.lc w.L (tN y)).2.2.2.2.1) (fo := (F_X9_fewestCalls tn tx fx fo w.p w.lc w.L (tN y)).2.2.2.2.2) (by omega)
            have m1 := mf_far far_1000 g1
            have m2 := mf_far far_1000 g3
            by_cases c6 : tdV w (tN y) = 1000
            · have e : (F_X9_fewestCalls tn tx fx fo w.p w.lc w.L (tN y)).1 = -1 := g2.trans (if_pos (m1.mpr c6))
              rw [if_pos c6]
              by_cases c7 : z = 0
              · rw [if_pos c7]; exact e
              · rw [if_neg c7, if_pos e]; exact e
            · have e : (F_X9_fewestCalls tn tx fx fo w.p w.lc w.L (tN y)).1 = tdV w (tN y) := g2.trans (if_neg fun q => c6 (m1.mp q))
              rw [if_neg c6]
              by_cases c7 : z = 0
              · rw [if_pos c7, if_pos c7]; exact e
              · obtain ⟨k, k1, k2, -, -⟩ := mf_ne g1 c6
                have hn1 : ¬ tdV w (tN y) = -1 := fun q => by
                  have := nI_ge0 (k := k) (by omega)
                  rw [← k2, q] at this
                  exact absurd this (by decide)
                rw [if_neg c7, if_neg c7, if_neg (show ¬ (F_X9_fewestCalls tn tx fx fo w.p w.lc w.L (tN y)).1 = -1 from fun q => hn1 (e.symm.trans q))]
                have e8 := nI_leI (a := tN y) (b := 1) (by omega) (by omega)
                by_cases c8 : nI (tN y) ≤ 1
                · rw [if_pos c8, if_pos (e8.mp c8)]
                · rw [if_neg c8, if_neg fun q => c8 (e8.mpr q), e]
                  have e9 : (F_X9_fewestCalls (F_X9_fewestCalls tn tx fx fo w.p w.lc w.L (tN y)).2.1 (F_X9_fewestCalls tn tx fx fo w.p w.lc w.L (tN y)).2.2.1 (F_X9_fewestCalls tn tx fx fo w.p w.lc w.L (tN y)).2.2.2.2.1 (F_X9_fewestCalls tn tx fx fo w.p w.lc w.L (tN y)).2.2.2.2.2 w.p w.lc w.L (tN y - 1)).1 = tdV w (tN y) ↔ tdV w (tN y - 1) = tdV w (tN y) := by
                    rw [g4]
                    by_cases c9 : (1000 : Int32) ≤ tdV w (tN y - 1)
                    · rw [if_pos c9, m2.mp c9]
                      exact ⟨fun q => absurd q.symm hn1, fun q => absurd q.symm c6⟩
                    · rw [if_neg c9]
                  by_cases c9 : tdV w (tN y - 1) = tdV w (tN y)
                  · rw [if_pos (e9.mpr c9), if_pos c9]
                  · rw [if_neg fun q => c9 (e9.mp q), if_neg c9]
          · rw [if_neg c5, if_neg c5]
/-- costs fall with the hour -/
theorem tp_mono {O : Nat → Nat → Prop} {s0 t : Int32} {h k : Nat} (q : TP O s0 h t k) : ∀ d : Nat, TP O s0 (h + d) t k
  | 0 => q
  | d + 1 => Or.inl (tp_mono q d)
theorem td_ref {w : VV} {F : Nat → Nat → Int32} {i : Nat} (ok : VOK w) (ow : OWB w) (hr : RP1 F i w) (hp4 : w.p ≤ 4) {cC cX tC : Nat → Int32} {m : Nat} (h1 : 1 ≤ m) (h8 : m ≤ 8) : MFr 99 (TP (Ow w) 33825 m (F_X9_goal w.p)) ((F_X12_layTrades (F 12) (F 13) (F 14) (F 15) (F 16) (F 17) cC cX tC w.lc w.p i).2.2 m) := by
  obtain ⟨b1, b2, b3, b4⟩ := be_at w.p (by omega)
  have hs : sB 16 (L2_X12_layTrades w.p 0 0 w.p).2 := fun i a b => (b4 i b (by omega)).2
  have he : sB 16 (L2_X12_layTrades w.p 0 0 w.p).1 := fun i a b => (b4 i b (by omega)).1
  have g := (l3_cst (Mh := fun h a b => ¬ F_X12_mayTrade (F 12) (F 13) (F 14) (F 15) (F 16) (F 17) w.lc i a b h = 0) (n := w.p) (lc := w.lc) (i := i) (rA := F 12) (rB := F 13) (rF := F 14) (rT := F 15) (rW := F 16) (rO := F 17) (fun h _ a b => Iff.rfl) hp4 hs (x0 := cX) (t0 := tC) (beg_cst (f := L1_X12_layTrades cC 65536) pls16 hs fun q hq => l1_at 65536 q hq) he 8 (Nat.le_refl _)).2 m h1 h8
  refine (show MFr 99 _ _ from g).iff fun k => ?_
  have hO : ∀ h c : Nat, (cBT c < w.p ∧ ¬ F_X12_mayTrade (F 12) (F 13) (F 14) (F 15) (F 16) (F 17) w.lc i (cAT c) (cBT c) h = 0) → c < 6 → cAT c < w.p ∧ cBT c < w.p := fun h c z hc => ⟨by have := (cp_at c hc).1; omega, z.1⟩
  have e1 := tp_cong (O := fun h c => cBT c < w.p ∧ ¬ F_X12_mayTrade (F 12) (F 13) (F 14) (F 15) (F 16) (F 17) w.lc i (cAT c) (cBT c) h = 0) (O2 := fun h c => c < 6 ∧ Ow w h c) (s0 := (L2_X12_layTrades w.p 0 0 w.p).2) (fun h c hc => by
    have hb := cBT_lt c
    show _ ∧ _ ↔ c < 6 ∧ (cBT c < w.p ∧ Mw w h (cAT c) (cBT c))
    rw [mt_iff ok ow hr (cp_at c hc).1 hb]
    exact ⟨fun z => ⟨hc, z⟩, fun z => z.2⟩) m (L2_X12_layTrades w.p 0 0 w.p).1 k
  have e2 := tp_end (O := fun h c => c < 6 ∧ Ow w h c) (s0 := (L2_X12_layTrades w.p 0 0 w.p).2) (w := (33825 : Int32) ^^^ (L2_X12_layTrades w.p 0 0 w.p).2) (t := (L2_X12_layTrades w.p 0 0 w.p).1) (h := m) (k := k) hp4 (fun h c z => ⟨by have := (cp_at c z.1).1; have := z.2.1; omega, z.2.1⟩) b3 (fun i a b => (b4 i b a).2) (fun i a b => (b4 i b a).1)
  rw [b1, b2] at e2
  have e3 := tp_cong (O := fun h c => c < 6 ∧ Ow w h c) (O2 := Ow w) (s0 := 33825) (fun h c hc => ⟨fun z => z.2, fun z => ⟨hc, z⟩⟩) m (F_X9_goal w.p) k
  exact (show _ ↔ _ from e1).trans (e2.symm.trans e3)
theorem mf_mono {far : Int32} (hf : ∀ n : Nat, n ≤ 18 → nI n < far) {P P2 : Nat → Prop} {v v2 : Int32} (h : MFr far P v) (h2 : MFr far P2 v2) (e : ∀ n : Nat, P n → P2 n) : v2 ≤ v := by
  rcases h with ⟨a1, -⟩ | ⟨n, a1, a2, a3, -⟩
  · rcases h2 with ⟨b1, -⟩ | ⟨m, b1, b2, -, -⟩
    · rw [a1, b1]; exact Int32.le_refl _
    · rw [a1, b2]; exact Int32.le_of_lt (hf m (by omega))
  · rcases h2 with ⟨-, b2⟩ | ⟨m, b1, b2, -, b4⟩
    · exact absurd (e n a3) (b2 n)
    · rw [a2, b2]
      refine (nI_leI (a := m) (b := n) (by omega) (by omega)).mpr ?_
      by_cases q : m ≤ n
      · exact q
      · exact absurd (e n a3) (b4 n (by omega))
theorem mf_conv {P : Nat → Prop} {v v2 : Int32} (h : MFr 99 P v) (h2 : MFr 1000 P v2) : (v = 99 ∧ v2 = 1000) ∨ (¬ v = 99 ∧ ¬ v2 = 1000 ∧ v = v2) := by
  rcases h with ⟨a1, a2⟩ | ⟨n, a1, a2, a3, a4⟩
  · rcases h2 with ⟨b1, -⟩ | ⟨m, -, -, b3, -⟩
    · exact Or.inl ⟨a1, b1⟩
    · exact absurd b3 (a2 m)
  · rcases h2 with ⟨-, b2⟩ | ⟨m, b1, b2, b3, b4⟩
    · exact absurd a3 (b2 n)
    · have e : n = m := by
        rcases Nat.lt_trichotomy n m with z | z | z
        · exact absurd a3 (b4 n z)
        · exact z
        · exact absurd b3 (a4 m z)
      refine Or.inr ⟨fun q => ?_, fun q => ?_, by rw [a2, b2, e]⟩
      · rw [a2] at q
        have := (nI_eq (a := n) (b := 99) (by omega) (by omega)).mp q
        omega
      · rw [b2] at q
        have := (nI_eq (a := m) (b := 1000) (by omega) (by omega)).mp q
        omega
theorem gd_loop {rA rB rF rT rW rO cC cX tC : Nat → Int32} {lc pe i n : Nat} : ∀ K : Nat, (L1_X12_trade1 rA rB rF rT rW rO cC cX tC lc pe i n 1 K = 0 ∨ L1_X12_trade1 rA rB rF rT rW rO cC cX tC lc pe i n 1 K = 1) ∧ (¬ L1_X12_trade1 rA rB rF rT rW rO cC cX tC lc pe i n 1 K = 0 ↔ ∀ j : Nat, j < K → ¬ (F_X12_layTrades rA rB rF rT rW rO cC cX tC lc pe i).2.2 (1 + j) ≤ (F_X12_layTrades rA rB rF rT rW rO cC cX tC lc pe i).2.2 n)
  | 0 => ⟨Or.inr rfl, ⟨fun _ j hj => absurd hj (Nat.not_lt_zero _), fun _ => (by decide : ¬ (1 : Int32) = 0)⟩⟩
  | K + 1 => by
    obtain ⟨i1, i2⟩ := gd_loop (rA := rA) (rB := rB) (rF := rF) (rT := rT) (rW := rW) (rO := rO) (cC := cC) (cX := cX) (tC := tC) (lc := lc) (pe := pe) (i := i) (n := n) K
    have e : L1_X12_trade1 rA rB rF rT rW rO cC cX tC lc pe i n 1 (K + 1) = L1_X12_trade1s rA rB rF rT rW rO cC cX tC lc pe i n K (L1_X12_trade1 rA rB rF rT rW rO cC cX tC lc pe i n 1 K) := rfl
    rw [e]
    generalize L1_X12_trade1 rA rB rF rT rW rO cC cX tC lc pe i n 1 K = u at i1 i2 ⊢
    unfold L1_X12_trade1s
    by_cases c1 : u = 0
    · rw [if_pos c1]
      exact ⟨Or.inl rfl, ⟨fun q => absurd rfl q, fun q => absurd c1 (i2.mpr fun j hj => q j (by omega))⟩⟩
    · rw [if_neg c1]
      have h := i2.mp c1
      by_cases c2 : (F_X12_layTrades rA rB rF rT rW rO cC cX tC lc pe i).2.2 (1 + K) ≤ (F_X12_layTrades rA rB rF rT rW rO cC cX tC lc pe i).2.2 n
      · rw [if_pos c2]
        exact ⟨Or.inl rfl, ⟨fun q => absurd rfl q, fun q => absurd c2 (q K (Nat.lt_succ_self _))⟩⟩
      · rw [if_neg c2]
        refine ⟨Or.inr rfl, ⟨fun _ j hj => ?_, fun _ => by decide⟩⟩
        by_cases y : j = K
        · rw [y]; exact c2
        · exact h j (by omega)
theorem td_refM {w : VV} {F : Nat → Nat → Int32} {i n k : Nat} (ok : VOK w) (ow : OWB w) (hr : RP1 F i w) (hp4 : w.p ≤ 4) {cC cX tC : Nat → Int32} (h1 : 1 ≤ n) (h8 : n ≤ 8) (hk : k < 2) : (F_X12_trade1 (F 12) (F 13) (F 14) (F 15) (F 16) (F 17) cC cX tC w.lc w.p i n k).1 = tdA w (nI n) (nI k) := by
  have hc := fun m (a : 1 ≤ m) (b : m ≤ 8) => td_ref (cC := cC) (cX := cX) (tC := tC) ok ow hr hp4 a b
  have hv := fun m (b : m ≤ 8) => (td_fc ok hp4 (tn := 0) (tx := 0) (fx := fun _ => 0) (fo := fun _ => 0) b).1
  have gl := gd_loop (rA := F 12) (rB := F 13) (rF := F 14) (rT := F 15) (rW := F 16) (rO := F 17) (cC := cC) (cX := cX) (tC := tC) (lc := w.lc) (pe := w.p) (i := i) (n := n) (n - 1)
  have t1 : ¬ (4 : Int32) < nI w.p := fun q => by
    have := (nI_ltI (a := 4) (b := w.p) (by omega) (by omega)).mp q
    omega
  have t2 : ¬ nI n < 1 := fun q => by
    have := (nI_ltI (a := n) (b := 1) (by omega) (by omega)).mp q
    omega
  have t3 : ¬ (8 : Int32) < nI n := fun q => by
    have := (nI_ltI (a := 8) (b := n) (by omega) (by omega)).mp q
    omega
  have t4 : ¬ nI k < 0 := nI_nn (by omega)
  have t5 : nI k ≤ 1 := (nI_leI (a := k) (b := 1) (by omega) (by omega)).mpr (by omega)
  unfold F_X12_trade1 tdA
  rw [if_neg t1, if_neg t2, if_neg t3, if_neg t4, if_pos t5, tN_nI (show n < 2 ^ 31 by omega)]
  generalize (F_X12_layTrades (F 12) (F 13) (F 14) (F 15) (F 16) (F 17) cC cX tC w.lc w.p i) = U at hc gl ⊢
  rcases mf_conv (hc n h1 h8) (hv n h8) with ⟨z1, z2⟩ | ⟨z1, z2, z3⟩
  · rw [if_pos z1, if_pos z2]
  · rw [if_neg z1, if_neg z2]
    by_cases c7 : nI k = 0
    · rw [if_pos c7, if_pos c7]; exact z3
    · rw [if_neg c7, if_neg c7]
      by_cases c8 : n ≤ 1
      · have hg : ¬ L1_X12_trade1 (F 12) (F 13) (F 14) (F 15) (F 16) (F 17) cC cX tC w.lc w.p i n 1 (n - 1) = 0 := gl.2.mpr fun j hj => by omega
        rw [if_neg hg, if_pos c8]
      · rw [if_neg c8]
        have hmo : ∀ m : Nat, 1 ≤ m → m ≤ n → U.2.2 n ≤ U.2.2 m := fun m a b => mf_mono far_99 (hc m a (by omega)) (hc n h1 h8) fun x q => by
          have := tp_mono q (n - m)
          rw [show m + (n - m) = n by omega] at this
          exact this
        have hmo2 : ∀ m : Nat, 1 ≤ m → m ≤ n - 1 → U.2.2 (n - 1) ≤ U.2.2 m := fun m a b => mf_mono far_99 (hc m a (by omega)) (hc (n - 1) (by omega) (by omega)) fun x q => by
          have := tp_mono q (n - 1 - m)
          rw [show m + (n - 1 - m) = n - 1 by omega] at this
          exact this
        have hg : ¬ L1_X12_trade1 (F 12) (F 13) (F 14) (F 15) (F 16) (F 17) cC cX tC w.lc w.p i n 1 (n - 1) = 0 ↔ ¬ U.2.2 (n - 1) = U.2.2 n := gl.2.trans ⟨fun q z => q (n - 2) (by omega) (by rw [show 1 + (n - 2) = n - 1 by omega, z]; exact Int32.le_refl _), fun q j hj z => q (Int32.le_antisymm (Int32.le_trans (hmo2 (1 + j) (by omega) (by omega)) z) (hmo (n - 1) (by omega) (by omega)))⟩
        have he : U.2.2 (n - 1) = U.2.2 n ↔ tdV w (n - 1) = tdV w n := by
          rcases mf_conv (hc (n - 1) (by omega) (by omega)) (hv (n - 1) (by omega)) with ⟨w1, w2⟩ | ⟨w1, w2, w3⟩
          · rw [w1, w2]
            exact ⟨fun q => absurd q.symm z1, fun q => absurd q.symm z2⟩
          · rw [w3, z3]
        by_cases c9 : U.2.2 (n - 1) = U.2.2 n
        · have : L1_X12_trade1 (F 12) (F 13) (F 14) (F 15) (F 16) (F 17) cC cX tC w.lc w.p i n 1 (n - 1) = 0 := Classical.byContradiction fun q => hg.mp q c9
          rw [if_pos this, if_pos (he.mp c9)]
        · rw [if_neg (hg.mpr c9), if_neg fun q => c9 (he.mpr q)]
theorem td_bad {nv : Nat} {V : Nat → VV} {F : Nat → Nat → Int32} {x y z : Int32} (hnv : nv ≤ 10) (hV : RPW nv V F) (h : F_X12_isValley nv x = 0 ∨ 4 < F 6 (tN x) ∨ F_X12_isIn y 1 8 = 0 ∨ F_X12_isIn z 0 1 = 0) : vAns nv V x (-1) (fun w => tdA w y z) = -1 := by
  rcases vin_cases (n := nv) (by omega) x with hb | ⟨i, hi, rfl⟩
  · rw [vAns_no hb]
  · rw [vAns_ok hnv hi]
    obtain ⟨ok, hr⟩ := hV i hi
    rw [tN_nI (by omega), hr.1] at h
    unfold tdA
    rcases h with h | h | h | h
    · exact absurd h (rv_yes hnv hi)
    · rw [if_pos h]
    · by_cases c1 : 4 < nI (V i).p
      · rw [if_pos c1]
      · rw [if_neg c1]
        by_cases c2 : y < 1
        · rw [if_pos c2]
        · rw [if_neg c2]
          by_cases c3 : 8 < y
          · rw [if_pos c3]
          · exfalso
            unfold F_X12_isIn at h
            rw [if_neg c2, if_neg c3] at h
            exact absurd h (by decide)
    · by_cases c1 : 4 < nI (V i).p
      · rw [if_pos c1]
      · rw [if_neg c1]
        by_cases c2 : y < 1
        · rw [if_pos c2]
        · rw [if_neg c2]
          by_cases c3 : 8 < y
          · rw [if_pos c3]
          · rw [if_neg c3]
            by_cases c4 : z < 0
            · rw [if_pos c4]
            · rw [if_neg c4]
              by_cases c5 : z ≤ 1
              · exfalso
                unfold F_X12_isIn at h
                rw [if_neg c4, if_neg (Int32.not_lt.mpr c5)] at h
                exact absurd h (by decide)
              · rw [if_neg c5]
theorem td0_val {nv : Nat} {rP : Nat → Int32} {x y z : Int32} : F_X12_trade0 nv rP x y z = -1 := by
  unfold F_X12_trade0
  (repeat' split) <;> rfl

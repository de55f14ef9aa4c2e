theorem m0_at : ∀ i : Nat, i < 16 → (m0L 16).getD i 0 = if i = 1 then 1 else 0 := by decide +kernel

set_option maxHeartbeats 4000000 in
set_option maxRecDepth 100000 in
theorem C_X2_countWaysG (l : Launch) (g : GG) (h0 c0 c1 n h k : Nat) (l0 l1 : List Int64) (hl0 : l0.length = 5) (hl1 : l1.length = 5) (hn : 2 ≤ n) (hn4 : n ≤ 4) (hh : h ≤ 8) (hk : k ≤ 4) : MetL l g yX2_countWays cX2_countWays 6 (some .long) 2 0 0 [.ref h0, .int (nI n), .int (nI h), .int (nI k)] [(h0, .inr (2, [.ref c0, .ref c1])), (c0, .inl (g.2.1 2, 5, .inr (.inl (lf (l0))))), (c1, .inl (g.2.1 2, 5, .inr (.inl (lf (l1)))))] (fun r u => r = (stC n h).getD k 0 ∧ ∃ (a b : Nat) (la lb : List Int64), ((a = c0 ∧ b = c1) ∨ (a = c1 ∧ b = c0)) ∧ u = [(h0, .inr (2, [.ref a, .ref b])), (a, .inl (g.2.1 2, 5, .inr (.inl (lf (la))))), (b, .inl (g.2.1 2, 5, .inr (.inl (lf (lb)))))]) := by
  refine MetL.of (own := RX2) rfl (by decide) (Nat.le_of_ble_eq_true rfl) ?_
  intro p e s m below meth c A ls args Q hQ X hr hin hW hl
  have hx := X.1
  have hb := X.2.1
  have hl : lv_has ls 6 [(0, .ref h0), (1, .int (nI n)), (2, .int (nI h)), (3, .int (nI k))] := hl
  refine lv_aload_n (pc := 0) hx hb dX2_countWays_0 rfl (lv_at hl 0 rfl) ?_
  refine r_get X hW 0 ciX2 0 rfl (by decide) m_259 rfl rfl dX2_countWays_1 ?_
  refine lv_lconst (v := 0) (pc := 4) hx hb dX2_countWays_4 (by decide) ?_
  refine c_Sv (pc := 5) (As := [.ref c0, .long 0]) (rest := []) (wr := [(h0, .inr (2, [.ref c0, .ref c1])), (c1, .inl (g.2.1 2, 5, .inr (.inl (lf (l1)))))]) X hW (C_J7_fill_d0a16 l g c0 (lf (l0))) vX2_18 [1] [0, 2] rfl rfl rfl rfl rfl rfl hl.1 rfl (Nat.le_of_ble_eq_true rfl) ⟨Nat.le_of_ble_eq_true rfl, Nat.le_of_ble_eq_true rfl⟩ ⟨Nat.le_of_ble_eq_true rfl, Nat.le_of_ble_eq_true rfl⟩ dX2_countWays_5 (fun u9 H locs hq hW => ?_)
  obtain ⟨f1, rfl, hf9⟩ := hq
  obtain rfl : f1 = lf z5 := z5_of (lf_out hl0) hf9
  have hW : WD g A s _ _ [(h0, .inr (2, [.ref c0, .ref c1])), (c1, .inl (g.2.1 2, 5, .inr (.inl (lf (l1))))), (c0, .inl (g.2.1 2, 5, .inr (.inl (lf z5))))] := hW
  refine lv_aload_n (pc := 8) hx hb dX2_countWays_8 rfl (lv_at hl 0 rfl) ?_
  refine r_get X hW 0 ciX2 0 rfl (by decide) m_259 rfl rfl dX2_countWays_9 ?_
  refine lv_iconst (v := 1) (pc := 12) hx hb dX2_countWays_12 (by decide) ?_
  refine lv_lconst (v := 1) (pc := 13) hx hb dX2_countWays_13 (by decide) ?_
  obtain ⟨f2, ef2⟩ : ∃ fz : Nat → Int64, vp_updL (lf z5) (1 : Int32).toNatClampNeg 1 = fz := ⟨_, rfl⟩
  refine r_last (ws' := [(h0, .inr (2, [.ref c0, .ref c1])), (c1, .inl (g.2.1 2, 5, .inr (.inl (lf (l1))))), (c0, .inl (g.2.1 2, 5, .inr (.inl f2)))]) X hW 2 rfl (by unfold vp_in; decide) ef2 rfl dX2_countWays_14 (fun H locs hW => ?_)
  obtain rfl := lf01 ef2
  have hW : WD g A s _ _ [(h0, .inr (2, [.ref c0, .ref c1])), (c0, .inl (g.2.1 2, 5, .inr (.inl (lf (stC n 0))))), (c1, .inl (g.2.1 2, 5, .inr (.inl (lf (l1)))))] := hW.pick [0, 2, 1] rfl rfl
  refine lv_iconst (v := 1) (pc := 15) hx hb dX2_countWays_15 (by decide) ?_
  refine lv_istore (lv' := [(4, .int 1), (0, .ref h0), (1, .int (nI n)), (2, .int (nI h)), (3, .int (nI k))]) (pc := 16) hx hb dX2_countWays_16 hl (by decide) rfl (fun ls hl => ?_)
  have loop1 : ∀ (fu : Nat) (t : Nat) (a : Nat) (b : Nat) (lb : List Int64), (h < fu + t) → (t ≤ h) → (lb.length = 5) → ((a = c0 ∧ b = c1) ∨ (a = c1 ∧ b = c0)) → ∀ (H : Heap) (locs : List Loc) (ls : Array Slot), WD g A s H locs [(h0, .inr (2, [.ref a, .ref b])), (a, .inl (g.2.1 2, 5, .inr (.inl (lf (stC n t))))), (b, .inl (g.2.1 2, 5, .inr (.inl (lf (lb)))))] → lv_has ls 6 [(0, .ref h0), (1, .int (nI n)), (2, .int (nI h)), (3, .int (nI k)), (4, .int (nI (t + 1)))] → W p l e (RM 2 0 0) s m args below meth c H locs 0 0 Q (F0 m 18 ls []) := by
    intro fu
    induction fu with
    | zero =>
      intro t a b lb hm ht hlb hab
      exact absurd hm (by omega)
    | succ fu ih1 =>
      intro t a b lb hm ht hlb hab H locs ls hW hl
      refine lv_iload (pc := 18) hx hb dX2_countWays_18 (lv_at hl 4 rfl) ?_
      refine lv_iload_n (pc := 20) hx hb dX2_countWays_20 rfl (lv_at hl 2 rfl) ?_
      refine lv_icmp_gt (tgt := 92) (pc := 21) hx hb dX2_countWays_21 rfl (fun c3 => ?_) (fun c3 => ?_)
      · have hth : t = h := by have := lt_t (i := h) (k := t + 1) (by omega) (by omega) c3; omega
        rw [hth] at hW
        refine lv_aload_n (pc := 92) hx hb dX2_countWays_92 rfl (lv_at hl 0 rfl) ?_
        refine r_get X hW 0 ciX2 0 rfl (by decide) m_259 rfl rfl dX2_countWays_93 ?_
        refine lv_iload_n (pc := 96) hx hb dX2_countWays_96 rfl (lv_at hl 3 rfl) ?_
        refine r_lald X hW 1 rfl (vp_in_nI (by omega) (by decide)) dX2_countWays_97 ?_
        refine lv_topl (fun v4 ev4 => ?_)
        obtain rfl : v4 = (stC n h).getD k 0 := ev4.trans (by rw [nI_clamp (by omega)])
        exact e_l X hQ hr hW (u := [(h0, .inr (2, [.ref a, .ref b])), (a, .inl (g.2.1 2, 5, .inr (.inl (lf (stC n h))))), (b, .inl (g.2.1 2, 5, .inr (.inl (lf (lb)))))]) [0, 1, 2] rfl rfl (⟨rfl, a, b, _, _, hab, rfl⟩) ⟨Nat.le_of_ble_eq_true rfl, Nat.le_of_ble_eq_true rfl⟩ dX2_countWays_98
      · have hth : t + 1 ≤ h := by have := lt_f (i := h) (k := t + 1) (by omega) (by omega) c3; omega
        refine lv_aload_n (pc := 24) hx hb dX2_countWays_24 rfl (lv_at hl 0 rfl) ?_
        refine r_get X hW 0 ciX2 1 rfl (by decide) m_260 rfl rfl dX2_countWays_25 ?_
        refine lv_lconst (v := 0) (pc := 28) hx hb dX2_countWays_28 (by decide) ?_
        refine c_Sv (pc := 29) (As := [.ref b, .long 0]) (rest := []) (wr := [(h0, .inr (2, [.ref a, .ref b])), (a, .inl (g.2.1 2, 5, .inr (.inl (lf (stC n t)))))]) X hW (C_J7_fill_d0a16 l g b (lf (lb))) vX2_18 [2] [0, 1] rfl rfl rfl rfl rfl rfl hl.1 rfl (Nat.le_of_ble_eq_true rfl) ⟨Nat.le_of_ble_eq_true rfl, Nat.le_of_ble_eq_true rfl⟩ ⟨Nat.le_of_ble_eq_true rfl, Nat.le_of_ble_eq_true rfl⟩ dX2_countWays_29 (fun u9 H locs hq hW => ?_)
        obtain ⟨f5, rfl, hf9⟩ := hq
        obtain rfl : f5 = lf z5 := z5_of (lf_out hlb) hf9
        have hW : WD g A s _ _ [(h0, .inr (2, [.ref a, .ref b])), (a, .inl (g.2.1 2, 5, .inr (.inl (lf (stC n t))))), (b, .inl (g.2.1 2, 5, .inr (.inl (lf z5))))] := hW
        refine lv_iconst (v := 1) (pc := 32) hx hb dX2_countWays_32 (by decide) ?_
        refine lv_istore (lv' := [(5, .int 1), (0, .ref h0), (1, .int (nI n)), (2, .int (nI h)), (3, .int (nI k)), (4, .int (nI (t + 1)))]) (pc := 33) hx hb dX2_countWays_33 hl (by decide) rfl (fun ls hl => ?_)
        have loop2 : ∀ (fv : Nat) (q : Nat), (n < fv + q) → (q ≤ n) → ∀ (H : Heap) (locs : List Loc) (ls : Array Slot), WD g A s H locs [(h0, .inr (2, [.ref a, .ref b])), (a, .inl (g.2.1 2, 5, .inr (.inl (lf (stC n t))))), (b, .inl (g.2.1 2, 5, .inr (.inl (lf (hcL n (stC n t) q)))))] → lv_has ls 6 [(0, .ref h0), (1, .int (nI n)), (2, .int (nI h)), (3, .int (nI k)), (4, .int (nI (t + 1))), (5, .int (nI (q + 1)))] → W p l e (RM 2 0 0) s m args below meth c H locs 0 0 Q (F0 m 35 ls []) := by
          intro fv
          induction fv with
          | zero =>
            intro q hm2 hqn
            exact absurd hm2 (by omega)
          | succ fv ih2 =>
            intro q hm2 hqn H locs ls hW hl
            refine lv_iload (pc := 35) hx hb dX2_countWays_35 (lv_at hl 5 rfl) ?_
            refine lv_iload_n (pc := 37) hx hb dX2_countWays_37 rfl (lv_at hl 1 rfl) ?_
            refine lv_icmp_gt (tgt := 66) (pc := 38) hx hb dX2_countWays_38 rfl (fun c6 => ?_) (fun c6 => ?_)
            · have hqn : q = n := by have := lt_t (i := n) (k := q + 1) (by omega) (by omega) c6; omega
              rw [hqn] at hW
              refine lv_aload_n (pc := 66) hx hb dX2_countWays_66 rfl (lv_at hl 0 rfl) ?_
              refine r_get X hW 0 ciX2 0 rfl (by decide) m_259 rfl rfl dX2_countWays_67 ?_
              refine lv_astore (lv' := [(5, .ref a), (0, .ref h0), (1, .int (nI n)), (2, .int (nI h)), (3, .int (nI k)), (4, .int (nI (t + 1)))]) (pc := 70) hx hb dX2_countWays_70 hl (by decide) rfl (fun ls hl => ?_)
              refine lv_aload_n (pc := 72) hx hb dX2_countWays_72 rfl (lv_at hl 1 rfl) ?_
              refine lv_aload_n (pc := 73) hx hb dX2_countWays_73 rfl (lv_at hl 1 rfl) ?_
              refine r_get X hW 0 ciX2 1 rfl (by decide) m_260 rfl rfl dX2_countWays_74 ?_
              refine r_put (ws' := [(h0, .inr (2, [.ref b, .ref b])), (a, .inl (g.2.1 2, 5, .inr (.inl (lf (stC n t))))), (b, .inl (g.2.1 2, 5, .inr (.inl (lf (stC n (t + 1))))))]) X hW 0 ciX2 0 rfl (by decide) m_259 rfl rfl rfl rfl (Nat.le_of_ble_eq_true rfl) rfl dX2_countWays_77 (fun H locs hW => ?_)
              refine lv_aload_n (pc := 80) hx hb dX2_countWays_80 rfl (lv_at hl 1 rfl) ?_
              refine lv_aload (pc := 81) hx hb dX2_countWays_81 (lv_at hl 0 rfl) ?_
              refine r_put (ws' := [(h0, .inr (2, [.ref b, .ref a])), (a, .inl (g.2.1 2, 5, .inr (.inl (lf (stC n t))))), (b, .inl (g.2.1 2, 5, .inr (.inl (lf (stC n (t + 1))))))]) X hW 0 ciX2 1 rfl (by decide) m_260 rfl rfl rfl rfl (Nat.le_of_ble_eq_true rfl) rfl dX2_countWays_83 (fun H locs hW => ?_)
              refine lv_iinc (v := nI (t + 1 + 1)) (lv' := [(4, .int (nI (t + 1 + 1))), (5, .ref a), (0, .ref h0), (1, .int (nI n)), (2, .int (nI h)), (3, .int (nI k))]) (pc := 86) hx hb dX2_countWays_86 hl (k := 5) rfl (nI_1 (t + 1)) (by decide) rfl (fun ls hl => ?_)
              refine lv_goto (tgt := 18) (pc := 89) hx hb dX2_countWays_89 rfl ?_
              have hW : WD g A s _ _ [(h0, .inr (2, [.ref b, .ref a])), (b, .inl (g.2.1 2, 5, .inr (.inl (lf (stC n (t + 1)))))), (a, .inl (g.2.1 2, 5, .inr (.inl (lf (stC n t)))))] := hW.pick [0, 2, 1] rfl rfl
              exact ih1 (t + 1) b a (stC n t) (by omega) (by omega) (stC_len _ _) (hab.symm.imp And.symm And.symm) _ _ _ hW (lv_sub hl [2, 3, 4, 5, 0] rfl)
            · have hql : q + 1 ≤ n := by have := lt_f (i := n) (k := q + 1) (by omega) (by omega) c6; omega
              refine lv_aload_n (pc := 41) hx hb dX2_countWays_41 rfl (lv_at hl 0 rfl) ?_
              refine r_get X hW 0 ciX2 0 rfl (by decide) m_259 rfl rfl dX2_countWays_42 ?_
              refine lv_iload (pc := 45) hx hb dX2_countWays_45 (lv_at hl 5 rfl) ?_
              refine r_lald X hW 1 rfl (vp_in_nI (by omega) (by decide)) dX2_countWays_47 ?_
              refine lv_topl (fun v7 ev7 => ?_)
              obtain rfl : v7 = (stC n t).getD (q + 1) 0 := ev7.trans (by rw [nI_clamp (by omega)])
              refine lv_lconst (v := 0) (pc := 48) hx hb dX2_countWays_48 (by decide) ?_
              refine W.lcmp (pc := 49) hx hb dX2_countWays_49 ?_
              refine lv_if_eq (tgt := 60) (pc := 50) hx hb dX2_countWays_50 rfl (fun c8 => ?_) (fun c8 => ?_)
              · have hq0 := (lg_cmp_eq _ _).mp c8
                rw [show lf (hcL n (stC n t) q) = lf (hcL n (stC n t) (q + 1)) from congrArg lf (if_pos hq0).symm] at hW
                refine lv_iinc (v := nI (q + 1 + 1)) (lv' := [(5, .int (nI (q + 1 + 1))), (0, .ref h0), (1, .int (nI n)), (2, .int (nI h)), (3, .int (nI k)), (4, .int (nI (t + 1)))]) (pc := 60) hx hb dX2_countWays_60 hl (k := 5) rfl (nI_1 (q + 1)) (by decide) rfl (fun ls hl => ?_)
                refine lv_goto (tgt := 35) (pc := 63) hx hb dX2_countWays_63 rfl ?_
                exact ih2 (q + 1) (by omega) (by omega) _ _ _ hW (lv_sub hl [1, 2, 3, 4, 5, 0] rfl)
              · have hq0 := fun z => c8 ((lg_cmp_eq _ _).mpr z)
                refine lv_aload_n (pc := 53) hx hb dX2_countWays_53 rfl (lv_at hl 0 rfl) ?_
                refine lv_iload_n (pc := 54) hx hb dX2_countWays_54 rfl (lv_at hl 1 rfl) ?_
                refine lv_iload (pc := 55) hx hb dX2_countWays_55 (lv_at hl 5 rfl) ?_
                refine c_Vv (pc := 57) (As := [.int (nI n), .int (nI (q + 1))]) (rest := []) (wr := []) X hW 0 ciX2 rfl (C_X2_goOn l g h0 a b n (q + 1) (stC n t) (hcL n (stC n t) q) hn hn4 (by omega) (by omega) (hcL_len _ _ _)) vX2_24 [0, 1, 2] [] rfl rfl rfl rfl rfl rfl hl.1 rfl (Nat.le_of_ble_eq_true rfl) ⟨Nat.le_of_ble_eq_true rfl, Nat.le_of_ble_eq_true rfl⟩ ⟨Nat.le_of_ble_eq_true rfl, Nat.le_of_ble_eq_true rfl⟩ dX2_countWays_57 (fun u9 H locs hq hW => ?_)
                obtain rfl := hq
                have hW : WD g A s _ _ [(h0, .inr (2, [.ref a, .ref b])), (a, .inl (g.2.1 2, 5, .inr (.inl (lf (stC n t))))), (b, .inl (g.2.1 2, 5, .inr (.inl (lf (goL n (q + 1) ((stC n t).getD (q + 1) 0 * lN (pw (n - 1) (n - (q + 1)))) (hcL n (stC n t) q) (pw (n - 1) (q + 1)))))))] := hW
                rw [show lf (goL n (q + 1) ((stC n t).getD (q + 1) 0 * lN (pw (n - 1) (n - (q + 1)))) (hcL n (stC n t) q) (pw (n - 1) (q + 1))) = lf (hcL n (stC n t) (q + 1)) from congrArg lf (if_neg hq0).symm] at hW
                refine lv_iinc (v := nI (q + 1 + 1)) (lv' := [(5, .int (nI (q + 1 + 1))), (0, .ref h0), (1, .int (nI n)), (2, .int (nI h)), (3, .int (nI k)), (4, .int (nI (t + 1)))]) (pc := 60) hx hb dX2_countWays_60 hl (k := 5) rfl (nI_1 (q + 1)) (by decide) rfl (fun ls hl => ?_)
                refine lv_goto (tgt := 35) (pc := 63) hx hb dX2_countWays_63 rfl ?_
                exact ih2 (q + 1) (by omega) (by omega) _ _ _ hW (lv_sub hl [1, 2, 3, 4, 5, 0] rfl)
        exact loop2 (n + 1) 0 (by omega) (by omega) _ _ _ hW (lv_sub hl [1, 2, 3, 4, 5, 0] rfl)
  exact loop1 (h + 1) 0 c0 c1 l1 (by omega) (by omega) hl1 (Or.inl ⟨rfl, rfl⟩) _ _ _ hW (lv_sub hl [1, 2, 3, 4, 0] rfl)

set_option maxHeartbeats 4000000 in
set_option maxRecDepth 100000 in
theorem C_X11_waysG (l : Launch) (g : GG) (h0 a0 a1 a2 a3 a4 a5 a6 a7 a8 a9 a10 j0 j1 : Nat) (j11 j12 j13 : Int32) (l0 l1 : List Int64) (hl0 : l0.length = 5) (hl1 : l1.length = 5) (p0 p1 p2 : Int32) : MetL l g yX11_ways cX11_ways 4 (some .long) 3 0 0 [.ref h0, .int p0, .int p1, .int p2] [(h0, .inr (11, [.ref a0, .ref a1, .ref a2, .ref a3, .ref a4, .ref a5, .ref a6, .ref a7, .ref a8, .ref a9, .ref a10, .int j11, .int j12, .int j13])), (a9, .inr (2, [.ref j0, .ref j1])), (j0, .inl (g.2.1 2, 5, .inr (.inl (lf l0)))), (j1, .inl (g.2.1 2, 5, .inr (.inl (lf l1))))] (fun r u => r = wv p0 p1 p2 ∧ ∃ (a b : Nat) (la lb : List Int64), ((a = j0 ∧ b = j1) ∨ (a = j1 ∧ b = j0)) ∧ u = [(h0, .inr (11, [.ref a0, .ref a1, .ref a2, .ref a3, .ref a4, .ref a5, .ref a6, .ref a7, .ref a8, .ref a9, .ref a10, .int j11, .int j12, .int j13])), (a9, .inr (2, [.ref a, .ref b])), (a, .inl (g.2.1 2, 5, .inr (.inl (lf la)))), (b, .inl (g.2.1 2, 5, .inr (.inl (lf lb))))]) := by
  refine MetL.of (own := RX11) rfl (by decide) (Nat.le_of_ble_eq_true rfl) ?_
  intro p e s m below meth c A ls args Q hQ X hr hin hW hl
  have hx := X.1
  have hb := X.2.1
  have hl : lv_has ls 4 [(0, .ref h0), (1, .int p0), (2, .int p1), (3, .int p2)] := hl
  refine lv_iload_n (pc := 0) hx hb dX11_ways_0 rfl (lv_at hl 1 rfl) ?_
  refine lv_iconst (v := 2) (pc := 1) hx hb dX11_ways_1 (by decide) ?_
  refine lv_icmp_lt (tgt := 31) (pc := 2) hx hb dX11_ways_2 rfl (fun c1 => ?_) (fun c1 => ?_)
  · refine lv_ldc2 (pc := 31) hx hb X.2.2.2.1 (X.2.2.2.2.1 _ m_1075) dX11_ways_31 ?_
    exact e_l X hQ hr hW (u := [(h0, .inr (11, [.ref a0, .ref a1, .ref a2, .ref a3, .ref a4, .ref a5, .ref a6, .ref a7, .ref a8, .ref a9, .ref a10, .int j11, .int j12, .int j13])), (a9, .inr (2, [.ref j0, .ref j1])), (j0, .inl (g.2.1 2, 5, .inr (.inl (lf l0)))), (j1, .inl (g.2.1 2, 5, .inr (.inl (lf l1))))]) [0, 1, 2, 3] rfl rfl (⟨(wv_no (fun h9 => by obtain ⟨q1, q2, q3, q4, q5, q6⟩ := h9; first | exact q1 c1 | exact q2 c1 | exact q3 c1 | exact q4 c1 | exact q5 c1 | exact q6 (Int32.not_le.mp c1))).symm, _, _, _, _, Or.inl ⟨rfl, rfl⟩, rfl⟩) ⟨Nat.le_of_ble_eq_true rfl, Nat.le_of_ble_eq_true rfl⟩ dX11_ways_34
  · refine lv_iload_n (pc := 5) hx hb dX11_ways_5 rfl (lv_at hl 1 rfl) ?_
    refine lv_iconst (v := 4) (pc := 6) hx hb dX11_ways_6 (by decide) ?_
    refine lv_icmp_gt (tgt := 31) (pc := 7) hx hb dX11_ways_7 rfl (fun c2 => ?_) (fun c2 => ?_)
    · refine lv_ldc2 (pc := 31) hx hb X.2.2.2.1 (X.2.2.2.2.1 _ m_1075) dX11_ways_31 ?_
      exact e_l X hQ hr hW (u := [(h0, .inr (11, [.ref a0, .ref a1, .ref a2, .ref a3, .ref a4, .ref a5, .ref a6, .ref a7, .ref a8, .ref a9, .ref a10, .int j11, .int j12, .int j13])), (a9, .inr (2, [.ref j0, .ref j1])), (j0, .inl (g.2.1 2, 5, .inr (.inl (lf l0)))), (j1, .inl (g.2.1 2, 5, .inr (.inl (lf l1))))]) [0, 1, 2, 3] rfl rfl (⟨(wv_no (fun h9 => by obtain ⟨q1, q2, q3, q4, q5, q6⟩ := h9; first | exact q1 c2 | exact q2 c2 | exact q3 c2 | exact q4 c2 | exact q5 c2 | exact q6 (Int32.not_le.mp c2))).symm, _, _, _, _, Or.inl ⟨rfl, rfl⟩, rfl⟩) ⟨Nat.le_of_ble_eq_true rfl, Nat.le_of_ble_eq_true rfl⟩ dX11_ways_34
    · refine lv_iload_n (pc := 10) hx hb dX11_ways_10 rfl (lv_at hl 2 rfl) ?_
      refine lv_iconst (v := 1) (pc := 11) hx hb dX11_ways_11 (by decide) ?_
      refine lv_icmp_lt (tgt := 31) (pc := 12) hx hb dX11_ways_12 rfl (fun c3 => ?_) (fun c3 => ?_)
      · refine lv_ldc2 (pc := 31) hx hb X.2.2.2.1 (X.2.2.2.2.1 _ m_1075) dX11_ways_31 ?_
        exact e_l X hQ hr hW (u := [(h0, .inr (11, [.ref a0, .ref a1, .ref a2, .ref a3, .ref a4, .ref a5, .ref a6, .ref a7, .ref a8, .ref a9, .ref a10, .int j11, .int j12, .int j13])), (a9, .inr (2, [.ref j0, .ref j1])), (j0, .inl (g.2.1 2, 5, .inr (.inl (lf l0)))), (j1, .inl (g.2.1 2, 5, .inr (.inl (lf l1))))]) [0, 1, 2, 3] rfl rfl (⟨(wv_no (fun h9 => by obtain ⟨q1, q2, q3, q4, q5, q6⟩ := h9; first | exact q1 c3 | exact q2 c3 | exact q3 c3 | exact q4 c3 | exact q5 c3 | exact q6 (Int32.not_le.mp c3))).symm, _, _, _, _, Or.inl ⟨rfl, rfl⟩, rfl⟩) ⟨Nat.le_of_ble_eq_true rfl, Nat.le_of_ble_eq_true rfl⟩ dX11_ways_34
      · refine lv_iload_n (pc := 15) hx hb dX11_ways_15 rfl (lv_at hl 2 rfl) ?_
        refine lv_bipush (v := 8) (pc := 16) hx hb dX11_ways_16 (by decide) ?_
        refine lv_icmp_gt (tgt := 31) (pc := 18) hx hb dX11_ways_18 rfl (fun c4 => ?_) (fun c4 => ?_)
        · refine lv_ldc2 (pc := 31) hx hb X.2.2.2.1 (X.2.2.2.2.1 _ m_1075) dX11_ways_31 ?_
          exact e_l X hQ hr hW (u := [(h0, .inr (11, [.ref a0, .ref a1, .ref a2, .ref a3, .ref a4, .ref a5, .ref a6, .ref a7, .ref a8, .ref a9, .ref a10, .int j11, .int j12, .int j13])), (a9, .inr (2, [.ref j0, .ref j1])), (j0, .inl (g.2.1 2, 5, .inr (.inl (lf l0)))), (j1, .inl (g.2.1 2, 5, .inr (.inl (lf l1))))]) [0, 1, 2, 3] rfl rfl (⟨(wv_no (fun h9 => by obtain ⟨q1, q2, q3, q4, q5, q6⟩ := h9; first | exact q1 c4 | exact q2 c4 | exact q3 c4 | exact q4 c4 | exact q5 c4 | exact q6 (Int32.not_le.mp c4))).symm, _, _, _, _, Or.inl ⟨rfl, rfl⟩, rfl⟩) ⟨Nat.le_of_ble_eq_true rfl, Nat.le_of_ble_eq_true rfl⟩ dX11_ways_34
        · refine lv_iload_n (pc := 21) hx hb dX11_ways_21 rfl (lv_at hl 3 rfl) ?_
          refine lv_iconst (v := 1) (pc := 22) hx hb dX11_ways_22 (by decide) ?_
          refine lv_icmp_lt (tgt := 31) (pc := 23) hx hb dX11_ways_23 rfl (fun c5 => ?_) (fun c5 => ?_)
          · refine lv_ldc2 (pc := 31) hx hb X.2.2.2.1 (X.2.2.2.2.1 _ m_1075) dX11_ways_31 ?_
            exact e_l X hQ hr hW (u := [(h0, .inr (11, [.ref a0, .ref a1, .ref a2, .ref a3, .ref a4, .ref a5, .ref a6, .ref a7, .ref a8, .ref a9, .ref a10, .int j11, .int j12, .int j13])), (a9, .inr (2, [.ref j0, .ref j1])), (j0, .inl (g.2.1 2, 5, .inr (.inl (lf l0)))), (j1, .inl (g.2.1 2, 5, .inr (.inl (lf l1))))]) [0, 1, 2, 3] rfl rfl (⟨(wv_no (fun h9 => by obtain ⟨q1, q2, q3, q4, q5, q6⟩ := h9; first | exact q1 c5 | exact q2 c5 | exact q3 c5 | exact q4 c5 | exact q5 c5 | exact q6 (Int32.not_le.mp c5))).symm, _, _, _, _, Or.inl ⟨rfl, rfl⟩, rfl⟩) ⟨Nat.le_of_ble_eq_true rfl, Nat.le_of_ble_eq_true rfl⟩ dX11_ways_34
          · refine lv_iload_n (pc := 26) hx hb dX11_ways_26 rfl (lv_at hl 3 rfl) ?_
            refine lv_iload_n (pc := 27) hx hb dX11_ways_27 rfl (lv_at hl 1 rfl) ?_
            refine lv_icmp_le (tgt := 35) (pc := 28) hx hb dX11_ways_28 rfl (fun c6 => ?_) (fun c6 => ?_)
            · have hok : wOk p0 p1 p2 := ⟨c1, c2, c3, c4, c5, Int32.not_lt.mpr c6⟩
              obtain ⟨n, h, k, hn, hn4, hh1, hh, hk1, hk, rfl, rfl, rfl, hwv⟩ := w_ok hok
              refine lv_aload_n (pc := 35) hx hb dX11_ways_35 rfl (lv_at hl 0 rfl) ?_
              refine r_get X hW 0 ciX11 9 rfl (by decide) m_362 rfl rfl dX11_ways_36 ?_
              refine lv_iload_n (pc := 39) hx hb dX11_ways_39 rfl (lv_at hl 1 rfl) ?_
              refine lv_iload_n (pc := 40) hx hb dX11_ways_40 rfl (lv_at hl 2 rfl) ?_
              refine lv_iload_n (pc := 41) hx hb dX11_ways_41 rfl (lv_at hl 3 rfl) ?_
              refine c_Vl (pc := 42) (As := [.int (nI n), .int (nI h), .int (nI k)]) (rest := []) (wr := [(h0, .inr (11, [.ref a0, .ref a1, .ref a2, .ref a3, .ref a4, .ref a5, .ref a6, .ref a7, .ref a8, .ref a9, .ref a10, .int j11, .int j12, .int j13]))]) X hW 1 ciX2 rfl (C_X2_countWaysG l g a9 j0 j1 n h k l0 l1 hl0 hl1 hn hn4 hh (by omega)) vX11_300 [1, 2, 3] [0] rfl rfl rfl rfl rfl rfl hl.1 rfl (Nat.le_of_ble_eq_true rfl) ⟨Nat.le_of_ble_eq_true rfl, Nat.le_of_ble_eq_true rfl⟩ ⟨Nat.le_of_ble_eq_true rfl, Nat.le_of_ble_eq_true rfl⟩ dX11_ways_42 (fun r7 u9 H locs hq hW => ?_)
              obtain ⟨rfl, qa, qb, la2, lb2, hab, rfl⟩ := hq
              have hW : WD g A s _ _ [(h0, .inr (11, [.ref a0, .ref a1, .ref a2, .ref a3, .ref a4, .ref a5, .ref a6, .ref a7, .ref a8, .ref a9, .ref a10, .int j11, .int j12, .int j13])), (a9, .inr (2, [.ref qa, .ref qb])), (qa, .inl (g.2.1 2, 5, .inr (.inl (lf la2)))), (qb, .inl (g.2.1 2, 5, .inr (.inl (lf lb2))))] := hW
              exact e_l X hQ hr hW (u := [(h0, .inr (11, [.ref a0, .ref a1, .ref a2, .ref a3, .ref a4, .ref a5, .ref a6, .ref a7, .ref a8, .ref a9, .ref a10, .int j11, .int j12, .int j13])), (a9, .inr (2, [.ref qa, .ref qb])), (qa, .inl (g.2.1 2, 5, .inr (.inl (lf la2)))), (qb, .inl (g.2.1 2, 5, .inr (.inl (lf lb2))))]) [0, 1, 2, 3] rfl rfl (⟨hwv.symm, _, _, _, _, hab, rfl⟩) ⟨Nat.le_of_ble_eq_true rfl, Nat.le_of_ble_eq_true rfl⟩ dX11_ways_45
            · refine lv_ldc2 (pc := 31) hx hb X.2.2.2.1 (X.2.2.2.2.1 _ m_1075) dX11_ways_31 ?_
              exact e_l X hQ hr hW (u := [(h0, .inr (11, [.ref a0, .ref a1, .ref a2, .ref a3, .ref a4, .ref a5, .ref a6, .ref a7, .ref a8, .ref a9, .ref a10, .int j11, .int j12, .int j13])), (a9, .inr (2, [.ref j0, .ref j1])), (j0, .inl (g.2.1 2, 5, .inr (.inl (lf l0)))), (j1, .inl (g.2.1 2, 5, .inr (.inl (lf l1))))]) [0, 1, 2, 3] rfl rfl (⟨(wv_no (fun h9 => by obtain ⟨q1, q2, q3, q4, q5, q6⟩ := h9; first | exact q1 c6 | exact q2 c6 | exact q3 c6 | exact q4 c6 | exact q5 c6 | exact q6 (Int32.not_le.mp c6))).symm, _, _, _, _, Or.inl ⟨rfl, rfl⟩, rfl⟩) ⟨Nat.le_of_ble_eq_true rfl, Nat.le_of_ble_eq_true rfl⟩ dX11_ways_34

set_option maxHeartbeats 4000000 in
set_option maxRecDepth 100000 in
theorem C_chooseG_0 (l : Launch) (g : GG) (h0 b1 b6 b7 b8 b9 b10 b11 b12 b13 b14 b15 b16 b17 b21 b22 b23 b24 b25 b26 b28 b29 b30 b31 b32 b33 b34 b35 b36 b46 b47 b48 b49 b50 b51 b52 b53 b54 b55 b56 b57 b58 b59 b60 b61 b62 b63 : Nat) (i0 i2 i3 i4 i5 i18 i19 i20 i27 i37 i38 i39 i40 i41 i42 i43 i44 i45 : Int32) (n kw fr ca : Nat) (x : Int64) (la : List Int64) (hn4 : n ≤ 4) (hkw : kw < 16) (hca : ca < 16) (hla : la.length = 16) (hfr : fr + 0 = n) : MetV l g yX12_choose cX12_choose 8 none 0 0 0 [.ref h0, .int (nI n), .int (nI kw), .int (nI fr), .int (nI ca), .long x] [(h0, .inr (12, [.int i0, .ref b1, .int i2, .int i3, .int i4, .int i5, .ref b6, .ref b7, .ref b8, .ref b9, .ref b10, .ref b11, .ref b12, .ref b13, .ref b14, .ref b15, .ref b16, .ref b17, .int i18, .int i19, .int i20, .ref b21, .ref b22, .ref b23, .ref b24, .ref b25, .ref b26, .int i27, .ref b28, .ref b29, .ref b30, .ref b31, .ref b32, .ref b33, .ref b34, .ref b35, .ref b36, .int i37, .int i38, .int i39, .int i40, .int i41, .int i42, .int i43, .int i44, .int i45, .ref b46, .ref b47, .ref b48, .ref b49, .ref b50, .ref b51, .ref b52, .ref b53, .ref b54, .ref b55, .ref b56, .ref b57, .ref b58, .ref b59, .ref b60, .ref b61, .ref b62, .ref b63])), (b60, .inl (g.2.1 2, 16, .inr (.inl (lf (la)))))] (fun u => u = [(h0, .inr (12, [.int i0, .ref b1, .int i2, .int i3, .int i4, .int i5, .ref b6, .ref b7, .ref b8, .ref b9, .ref b10, .ref b11, .ref b12, .ref b13, .ref b14, .ref b15, .ref b16, .ref b17, .int i18, .int i19, .int i20, .ref b21, .ref b22, .ref b23, .ref b24, .ref b25, .ref b26, .int i27, .ref b28, .ref b29, .ref b30, .ref b31, .ref b32, .ref b33, .ref b34, .ref b35, .ref b36, .int i37, .int i38, .int i39, .int i40, .int i41, .int i42, .int i43, .int i44, .int i45, .ref b46, .ref b47, .ref b48, .ref b49, .ref b50, .ref b51, .ref b52, .ref b53, .ref b54, .ref b55, .ref b56, .ref b57, .ref b58, .ref b59, .ref b60, .ref b61, .ref b62, .ref b63])), (b60, .inl (g.2.1 2, 16, .inr (.inl (lf (chL n kw x 0 fr ca la)))))]) := by
  refine MetV.of (own := RX12) rfl (by decide) (Nat.le_of_ble_eq_true rfl) ?_
  intro p e s m below meth c A ls args Q hQ X hr hin hW hl
  have hx := X.1
  have hb := X.2.1
  have hl : lv_has ls 8 [(0, .ref h0), (1, .int (nI n)), (2, .int (nI kw)), (3, .int (nI fr)), (4, .int (nI ca)), (5, .long x)] := hl
  have hor : kw ||| ca < 16 := Nat.or_lt_two_pow (n := 4) hkw hca
  refine lv_iload_n (pc := 0) hx hb dX12_choose_0 rfl (lv_at hl 3 rfl) ?_
  refine lv_iload_n (pc := 1) hx hb dX12_choose_1 rfl (lv_at hl 1 rfl) ?_
  refine lv_icmp_ne (tgt := 20) (pc := 2) hx hb dX12_choose_2 rfl (fun c1 => absurd (congrArg nI (show fr = n by omega)) c1) (fun c1 => ?_)
  refine lv_aload_n (pc := 5) hx hb dX12_choose_5 rfl (lv_at hl 0 rfl) ?_
  refine r_get X hW 0 ciX12 60 rfl (by decide) m_1287 rfl rfl dX12_choose_6 ?_
  refine lv_iload_n (pc := 9) hx hb dX12_choose_9 rfl (lv_at hl 2 rfl) ?_
  refine lv_iload (pc := 10) hx hb dX12_choose_10 (lv_at hl 4 rfl) ?_
  refine lv_ior (pc := 12) hx hb dX12_choose_12 ?_
  refine lv_topi (fun v2 ev2 => ?_)
  obtain rfl : v2 = nI (kw ||| ca) := ev2.trans (fa_or _ _)
  refine lv_dup2_11 (pc := 13) hx hb dX12_choose_13 rfl rfl ?_
  refine r_lald X hW 1 rfl (vp_in_nI hor (by decide)) dX12_choose_14 ?_
  refine lv_topl (fun v3 ev3 => ?_)
  obtain rfl : v3 = la.getD (kw ||| ca) 0 := ev3.trans (by rw [nI_clamp (by omega)])
  refine lv_lload (pc := 15) hx hb dX12_choose_15 (lv_at hl 5 rfl) ?_
  refine lv_ladd (pc := 17) hx hb dX12_choose_17 ?_
  obtain ⟨f4, ef4⟩ : ∃ fz : Nat → Int64, vp_updL (lf (la)) (nI (kw ||| ca)).toNatClampNeg ((la.getD (kw ||| ca) 0) + x) = fz := ⟨_, rfl⟩
  refine r_last (ws' := [(h0, .inr (12, [.int i0, .ref b1, .int i2, .int i3, .int i4, .int i5, .ref b6, .ref b7, .ref b8, .ref b9, .ref b10, .ref b11, .ref b12, .ref b13, .ref b14, .ref b15, .ref b16, .ref b17, .int i18, .int i19, .int i20, .ref b21, .ref b22, .ref b23, .ref b24, .ref b25, .ref b26, .int i27, .ref b28, .ref b29, .ref b30, .ref b31, .ref b32, .ref b33, .ref b34, .ref b35, .ref b36, .int i37, .int i38, .int i39, .int i40, .int i41, .int i42, .int i43, .int i44, .int i45, .ref b46, .ref b47, .ref b48, .ref b49, .ref b50, .ref b51, .ref b52, .ref b53, .ref b54, .ref b55, .ref b56, .ref b57, .ref b58, .ref b59, .ref b60, .ref b61, .ref b62, .ref b63])), (b60, .inl (g.2.1 2, 16, .inr (.inl f4)))]) X hW 1 rfl (vp_in_nI hor (by decide)) ef4 rfl dX12_choose_18 (fun H locs hW => ?_)
  obtain rfl : f4 = lf (chL n kw x 0 fr ca la) := ef4.symm.trans (by rw [nI_clamp (by omega)]; exact lf_set (by omega))
  exact e_v X hQ hr hW (u := [(h0, .inr (12, [.int i0, .ref b1, .int i2, .int i3, .int i4, .int i5, .ref b6, .ref b7, .ref b8, .ref b9, .ref b10, .ref b11, .ref b12, .ref b13, .ref b14, .ref b15, .ref b16, .ref b17, .int i18, .int i19, .int i20, .ref b21, .ref b22, .ref b23, .ref b24, .ref b25, .ref b26, .int i27, .ref b28, .ref b29, .ref b30, .ref b31, .ref b32, .ref b33, .ref b34, .ref b35, .ref b36, .int i37, .int i38, .int i39, .int i40, .int i41, .int i42, .int i43, .int i44, .int i45, .ref b46, .ref b47, .ref b48, .ref b49, .ref b50, .ref b51, .ref b52, .ref b53, .ref b54, .ref b55, .ref b56, .ref b57, .ref b58, .ref b59, .ref b60, .ref b61, .ref b62, .ref b63])), (b60, .inl (g.2.1 2, 16, .inr (.inl (lf (chL n kw x 0 fr ca la)))))]) [0, 1] rfl rfl (rfl) ⟨Nat.le_of_ble_eq_true rfl, Nat.le_of_ble_eq_true rfl⟩ dX12_choose_19

set_option maxHeartbeats 4000000 in
set_option maxRecDepth 100000 in
theorem C_chooseG_1 (l : Launch) (g : GG) (h0 b1 b6 b7 b8 b9 b10 b11 b12 b13 b14 b15 b16 b17 b21 b22 b23 b24 b25 b26 b28 b29 b30 b31 b32 b33 b34 b35 b36 b46 b47 b48 b49 b50 b51 b52 b53 b54 b55 b56 b57 b58 b59 b60 b61 b62 b63 : Nat) (i0 i2 i3 i4 i5 i18 i19 i20 i27 i37 i38 i39 i40 i41 i42 i43 i44 i45 : Int32) (n kw fr ca : Nat) (x : Int64) (la : List Int64) (hn4 : n ≤ 4) (hkw : kw < 16) (hca : ca < 16) (hla : la.length = 16) (hfr : fr + 1 = n) : MetV l g yX12_choose cX12_choose 8 none 1 0 0 [.ref h0, .int (nI n), .int (nI kw), .int (nI fr), .int (nI ca), .long x] [(h0, .inr (12, [.int i0, .ref b1, .int i2, .int i3, .int i4, .int i5, .ref b6, .ref b7, .ref b8, .ref b9, .ref b10, .ref b11, .ref b12, .ref b13, .ref b14, .ref b15, .ref b16, .ref b17, .int i18, .int i19, .int i20, .ref b21, .ref b22, .ref b23, .ref b24, .ref b25, .ref b26, .int i27, .ref b28, .ref b29, .ref b30, .ref b31, .ref b32, .ref b33, .ref b34, .ref b35, .ref b36, .int i37, .int i38, .int i39, .int i40, .int i41, .int i42, .int i43, .int i44, .int i45, .ref b46, .ref b47, .ref b48, .ref b49, .ref b50, .ref b51, .ref b52, .ref b53, .ref b54, .ref b55, .ref b56, .ref b57, .ref b58, .ref b59, .ref b60, .ref b61, .ref b62, .ref b63])), (b60, .inl (g.2.1 2, 16, .inr (.inl (lf (la)))))] (fun u => u = [(h0, .inr (12, [.int i0, .ref b1, .int i2, .int i3, .int i4, .int i5, .ref b6, .ref b7, .ref b8, .ref b9, .ref b10, .ref b11, .ref b12, .ref b13, .ref b14, .ref b15, .ref b16, .ref b17, .int i18, .int i19, .int i20, .ref b21, .ref b22, .ref b23, .ref b24, .ref b25, .ref b26, .int i27, .ref b28, .ref b29, .ref b30, .ref b31, .ref b32, .ref b33, .ref b34, .ref b35, .ref b36, .int i37, .int i38, .int i39, .int i40, .int i41, .int i42, .int i43, .int i44, .int i45, .ref b46, .ref b47, .ref b48, .ref b49, .ref b50, .ref b51, .ref b52, .ref b53, .ref b54, .ref b55, .ref b56, .ref b57, .ref b58, .ref b59, .ref b60, .ref b61, .ref b62, .ref b63])), (b60, .inl (g.2.1 2, 16, .inr (.inl (lf (chL n kw x 1 fr ca la)))))]) := by
  refine MetV.of (own := RX12) rfl (by decide) (Nat.le_of_ble_eq_true rfl) ?_
  intro p e s m below meth c A ls args Q hQ X hr hin hW hl
  have hx := X.1
  have hb := X.2.1
  have hl : lv_has ls 8 [(0, .ref h0), (1, .int (nI n)), (2, .int (nI kw)), (3, .int (nI fr)), (4, .int (nI ca)), (5, .long x)] := hl
  have hb2 : kw / 2 ^ fr % 2 < 2 := Nat.mod_lt _ (by decide)
  refine lv_iload_n (pc := 0) hx hb dX12_choose_0 rfl (lv_at hl 3 rfl) ?_
  refine lv_iload_n (pc := 1) hx hb dX12_choose_1 rfl (lv_at hl 1 rfl) ?_
  refine lv_icmp_ne (tgt := 20) (pc := 2) hx hb dX12_choose_2 rfl (fun c1 => ?_) (fun c1 => absurd c1 (fun q => absurd ((nI_eq (by omega) (by omega)).mp q) (by omega)))
  refine lv_iconst (v := 0) (pc := 20) hx hb dX12_choose_20 (by decide) ?_
  refine lv_istore (lv' := [(7, .int 0), (0, .ref h0), (1, .int (nI n)), (2, .int (nI kw)), (3, .int (nI fr)), (4, .int (nI ca)), (5, .long x)]) (pc := 21) hx hb dX12_choose_21 hl (by decide) rfl (fun ls hl => ?_)
  have loop1 : ∀ (fu : Nat) (o : Nat), (n < fu + o) → (o ≤ n) → ∀ (H : Heap) (locs : List Loc) (ls : Array Slot), WD g A s H locs [(h0, .inr (12, [.int i0, .ref b1, .int i2, .int i3, .int i4, .int i5, .ref b6, .ref b7, .ref b8, .ref b9, .ref b10, .ref b11, .ref b12, .ref b13, .ref b14, .ref b15, .ref b16, .ref b17, .int i18, .int i19, .int i20, .ref b21, .ref b22, .ref b23, .ref b24, .ref b25, .ref b26, .int i27, .ref b28, .ref b29, .ref b30, .ref b31, .ref b32, .ref b33, .ref b34, .ref b35, .ref b36, .int i37, .int i38, .int i39, .int i40, .int i41, .int i42, .int i43, .int i44, .int i45, .ref b46, .ref b47, .ref b48, .ref b49, .ref b50, .ref b51, .ref b52, .ref b53, .ref b54, .ref b55, .ref b56, .ref b57, .ref b58, .ref b59, .ref b60, .ref b61, .ref b62, .ref b63])), (b60, .inl (g.2.1 2, 16, .inr (.inl (lf (chO (fun o l => chL n kw x 0 (fr + 1) (if kw / 2 ^ fr % 2 = 1 then ca ||| 2 ^ o else ca) l) fr o la)))))] → lv_has ls 8 [(0, .ref h0), (1, .int (nI n)), (2, .int (nI kw)), (3, .int (nI fr)), (4, .int (nI ca)), (5, .long x), (7, .int (nI o))] → W p l e (RM 1 0 0) s m args below meth c H locs 0 0 Q (F0 m 23 ls []) := by
    intro fu
    induction fu with
    | zero =>
      intro o hm ho
      exact absurd hm (by omega)
    | succ fu ih1 =>
      intro o hm ho H locs ls hW hl
      refine lv_iload (pc := 23) hx hb dX12_choose_23 (lv_at hl 6 rfl) ?_
      refine lv_iload_n (pc := 25) hx hb dX12_choose_25 rfl (lv_at hl 1 rfl) ?_
      refine lv_icmp_ge (tgt := 73) (pc := 26) hx hb dX12_choose_26 rfl (fun c2 => ?_) (fun c2 => ?_)
      · have hon : o = n := by have := ge_t (k := n) (by omega) (by omega) c2; omega
        rw [hon] at hW
        exact e_v X hQ hr hW (u := [(h0, .inr (12, [.int i0, .ref b1, .int i2, .int i3, .int i4, .int i5, .ref b6, .ref b7, .ref b8, .ref b9, .ref b10, .ref b11, .ref b12, .ref b13, .ref b14, .ref b15, .ref b16, .ref b17, .int i18, .int i19, .int i20, .ref b21, .ref b22, .ref b23, .ref b24, .ref b25, .ref b26, .int i27, .ref b28, .ref b29, .ref b30, .ref b31, .ref b32, .ref b33, .ref b34, .ref b35, .ref b36, .int i37, .int i38, .int i39, .int i40, .int i41, .int i42, .int i43, .int i44, .int i45, .ref b46, .ref b47, .ref b48, .ref b49, .ref b50, .ref b51, .ref b52, .ref b53, .ref b54, .ref b55, .ref b56, .ref b57, .ref b58, .ref b59, .ref b60, .ref b61, .ref b62, .ref b63])), (b60, .inl (g.2.1 2, 16, .inr (.inl (lf (chL n kw x 1 fr ca la)))))]) [0, 1] rfl rfl (rfl) ⟨Nat.le_of_ble_eq_true rfl, Nat.le_of_ble_eq_true rfl⟩ dX12_choose_73
      · have hlo : o < n := ge_f (by omega) (by omega) c2
        refine lv_iload (pc := 29) hx hb dX12_choose_29 (lv_at hl 6 rfl) ?_
        refine lv_iload_n (pc := 31) hx hb dX12_choose_31 rfl (lv_at hl 3 rfl) ?_
        refine lv_icmp_eq (tgt := 67) (pc := 32) hx hb dX12_choose_32 rfl (fun c3 => ?_) (fun c3 => ?_)
        · have hof : o = fr := (nI_eq (by omega) (by omega)).mp c3
          have hst : chO (fun o l => chL n kw x 0 (fr + 1) (if kw / 2 ^ fr % 2 = 1 then ca ||| 2 ^ o else ca) l) fr (o + 1) la = chO (fun o l => chL n kw x 0 (fr + 1) (if kw / 2 ^ fr % 2 = 1 then ca ||| 2 ^ o else ca) l) fr o la := if_pos hof
          rw [← hst] at hW
          refine lv_iinc (v := nI (o + 1)) (lv' := [(7, .int (nI (o + 1))), (0, .ref h0), (1, .int (nI n)), (2, .int (nI kw)), (3, .int (nI fr)), (4, .int (nI ca)), (5, .long x)]) (pc := 67) hx hb dX12_choose_67 hl (k := 6) rfl (nI_1 o) (by decide) rfl (fun ls hl => ?_)
          refine lv_goto (tgt := 23) (pc := 70) hx hb dX12_choose_70 rfl ?_
          exact ih1 (o + 1) (by omega) (by omega) _ _ _ hW (lv_sub hl [1, 2, 3, 4, 5, 6, 0] rfl)
        · have hof : ¬ o = fr := fun q => c3 (congrArg nI q)
          refine lv_aload_n (pc := 35) hx hb dX12_choose_35 rfl (lv_at hl 0 rfl) ?_
          refine lv_iload_n (pc := 36) hx hb dX12_choose_36 rfl (lv_at hl 1 rfl) ?_
          refine lv_iload_n (pc := 37) hx hb dX12_choose_37 rfl (lv_at hl 2 rfl) ?_
          refine lv_iload_n (pc := 38) hx hb dX12_choose_38 rfl (lv_at hl 3 rfl) ?_
          refine lv_iconst (v := 1) (pc := 39) hx hb dX12_choose_39 (by decide) ?_
          refine lv_iadd (pc := 40) hx hb dX12_choose_40 ?_
          refine lv_topi (fun v4 ev4 => ?_)
          obtain rfl : v4 = nI (fr + 1) := ev4.trans (nI_1 fr)
          refine lv_iload_n (pc := 41) hx hb dX12_choose_41 rfl (lv_at hl 2 rfl) ?_
          refine lv_iload_n (pc := 42) hx hb dX12_choose_42 rfl (lv_at hl 3 rfl) ?_
          refine lv_ishr (pc := 43) hx hb dX12_choose_43 ?_
          refine lv_topi (fun v5 ev5 => ?_)
          obtain rfl : v5 = nI (kw / 2 ^ fr) := ev5.trans (shr_n kw hkw fr (by omega))
          refine lv_iconst (v := 1) (pc := 44) hx hb dX12_choose_44 (by decide) ?_
          refine lv_iand (pc := 45) hx hb dX12_choose_45 ?_
          refine lv_topi (fun v6 ev6 => ?_)
          obtain rfl : v6 = nI (kw / 2 ^ fr % 2) := ev6.trans (and_1 _ (Nat.lt_of_le_of_lt (Nat.div_le_self _ _) hkw))
          refine lv_iconst (v := 1) (pc := 46) hx hb dX12_choose_46 (by decide) ?_
          refine lv_icmp_ne (tgt := 60) (pc := 47) hx hb dX12_choose_47 rfl (fun c7 => ?_) (fun c7 => ?_)
          · have hbit : ¬ kw / 2 ^ fr % 2 = 1 := fun q => c7 (congrArg nI q)
            refine lv_iload (pc := 60) hx hb dX12_choose_60 (lv_at hl 4 rfl) ?_
            refine lv_lload (pc := 62) hx hb dX12_choose_62 (lv_at hl 5 rfl) ?_
            refine c_Vv (pc := 64) (As := [.int (nI n), .int (nI kw), .int (nI (fr + 1)), .int (nI ca), .long x]) (rest := []) (wr := []) X hW 0 ciX12 rfl (C_chooseG_0 l g h0 b1 b6 b7 b8 b9 b10 b11 b12 b13 b14 b15 b16 b17 b21 b22 b23 b24 b25 b26 b28 b29 b30 b31 b32 b33 b34 b35 b36 b46 b47 b48 b49 b50 b51 b52 b53 b54 b55 b56 b57 b58 b59 b60 b61 b62 b63 i0 i2 i3 i4 i5 i18 i19 i20 i27 i37 i38 i39 i40 i41 i42 i43 i44 i45 n kw (fr + 1) ca x (chO (fun o l => chL n kw x 0 (fr + 1) (if kw / 2 ^ fr % 2 = 1 then ca ||| 2 ^ o else ca) l) fr o la) hn4 hkw hca (by rw [chO_len fr (fun o l => chL_len n kw x 0 _ _ l), hla]) (by omega)) vX12_388 [0, 1] [] rfl rfl rfl rfl rfl rfl hl.1 rfl (Nat.le_of_ble_eq_true rfl) ⟨Nat.le_of_ble_eq_true rfl, Nat.le_of_ble_eq_true rfl⟩ ⟨Nat.le_of_ble_eq_true rfl, Nat.le_of_ble_eq_true rfl⟩ dX12_choose_64 (fun u9 H locs hq hW => ?_)
            obtain rfl := hq
            have hW : WD g A s _ _ [(h0, .inr (12, [.int i0, .ref b1, .int i2, .int i3, .int i4, .int i5, .ref b6, .ref b7, .ref b8, .ref b9, .ref b10, .ref b11, .ref b12, .ref b13, .ref b14, .ref b15, .ref b16, .ref b17, .int i18, .int i19, .int i20, .ref b21, .ref b22, .ref b23, .ref b24, .ref b25, .ref b26, .int i27, .ref b28, .ref b29, .ref b30, .ref b31, .ref b32, .ref b33, .ref b34, .ref b35, .ref b36, .int i37, .int i38, .int i39, .int i40, .int i41, .int i42, .int i43, .int i44, .int i45, .ref b46, .ref b47, .ref b48, .ref b49, .ref b50, .ref b51, .ref b52, .ref b53, .ref b54, .ref b55, .ref b56, .ref b57, .ref b58, .ref b59, .ref b60, .ref b61, .ref b62, .ref b63])), (b60, .inl (g.2.1 2, 16, .inr (.inl (lf (chL n kw x 0 (fr + 1) ca (chO (fun o l => chL n kw x 0 (fr + 1) (if kw / 2 ^ fr % 2 = 1 then ca ||| 2 ^ o else ca) l) fr o la))))))] := hW
            have hst : chO (fun o l => chL n kw x 0 (fr + 1) (if kw / 2 ^ fr % 2 = 1 then ca ||| 2 ^ o else ca) l) fr (o + 1) la = chL n kw x 0 (fr + 1) ca (chO (fun o l => chL n kw x 0 (fr + 1) (if kw / 2 ^ fr % 2 = 1 then ca ||| 2 ^ o else ca) l) fr o la) := by
              rw [chO, if_neg hof, if_neg hbit]
            rw [← hst] at hW
            refine lv_iinc (v := nI (o + 1)) (lv' := [(7, .int (nI (o + 1))), (0, .ref h0), (1, .int (nI n)), (2, .int (nI kw)), (3, .int (nI fr)), (4, .int (nI ca)), (5, .long x)]) (pc := 67) hx hb dX12_choose_67 hl (k := 6) rfl (nI_1 o) (by decide) rfl (fun ls hl => ?_)
            refine lv_goto (tgt := 23) (pc := 70) hx hb dX12_choose_70 rfl ?_
            exact ih1 (o + 1) (by omega) (by omega) _ _ _ hW (lv_sub hl [1, 2, 3, 4, 5, 6, 0] rfl)
          · have hbit : kw / 2 ^ fr % 2 = 1 := (nI_eq (by omega) (by decide)).mp c7
            refine lv_iload (pc := 50) hx hb dX12_choose_50 (lv_at hl 4 rfl) ?_
            refine lv_iconst (v := 1) (pc := 52) hx hb dX12_choose_52 (by decide) ?_
            refine lv_iload (pc := 53) hx hb dX12_choose_53 (lv_at hl 6 rfl) ?_
            refine lv_ishl (pc := 55) hx hb dX12_choose_55 ?_
            refine lv_topi (fun v8 ev8 => ?_)
            obtain rfl : v8 = nI (2 ^ o) := ev8.trans (shl_n o (by omega))
            refine lv_ior (pc := 56) hx hb dX12_choose_56 ?_
            refine lv_topi (fun v9 ev9 => ?_)
            obtain rfl : v9 = nI (ca ||| 2 ^ o) := ev9.trans (fa_or _ _)
            refine lv_goto (tgt := 62) (pc := 57) hx hb dX12_choose_57 rfl ?_
            refine lv_lload (pc := 62) hx hb dX12_choose_62 (lv_at hl 5 rfl) ?_
            refine c_Vv (pc := 64) (As := [.int (nI n), .int (nI kw), .int (nI (fr + 1)), .int (nI (ca ||| 2 ^ o)), .long x]) (rest := []) (wr := []) X hW 0 ciX12 rfl (C_chooseG_0 l g h0 b1 b6 b7 b8 b9 b10 b11 b12 b13 b14 b15 b16 b17 b21 b22 b23 b24 b25 b26 b28 b29 b30 b31 b32 b33 b34 b35 b36 b46 b47 b48 b49 b50 b51 b52 b53 b54 b55 b56 b57 b58 b59 b60 b61 b62 b63 i0 i2 i3 i4 i5 i18 i19 i20 i27 i37 i38 i39 i40 i41 i42 i43 i44 i45 n kw (fr + 1) (ca ||| 2 ^ o) x (chO (fun o l => chL n kw x 0 (fr + 1) (if kw / 2 ^ fr % 2 = 1 then ca ||| 2 ^ o else ca) l) fr o la) hn4 hkw (Nat.or_lt_two_pow (n := 4) hca (p2_4 o (by omega))) (by rw [chO_len fr (fun o l => chL_len n kw x 0 _ _ l), hla]) (by omega)) vX12_388 [0, 1] [] rfl rfl rfl rfl rfl rfl hl.1 rfl (Nat.le_of_ble_eq_true rfl) ⟨Nat.le_of_ble_eq_true rfl, Nat.le_of_ble_eq_true rfl⟩ ⟨Nat.le_of_ble_eq_true rfl, Nat.le_of_ble_eq_true rfl⟩ dX12_choose_64 (fun u9 H locs hq hW => ?_)
            obtain rfl := hq
            have hW : WD g A s _ _ [(h0, .inr (12, [.int i0, .ref b1, .int i2, .int i3, .int i4, .int i5, .ref b6, .ref b7, .ref b8, .ref b9, .ref b10, .ref b11, .ref b12, .ref b13, .ref b14, .ref b15, .ref b16, .ref b17, .int i18, .int i19, .int i20, .ref b21, .ref b22, .ref b23, .ref b24, .ref b25, .ref b26, .int i27, .ref b28, .ref b29, .ref b30, .ref b31, .ref b32, .ref b33, .ref b34, .ref b35, .ref b36, .int i37, .int i38, .int i39, .int i40, .int i41, .int i42, .int i43, .int i44, .int i45, .ref b46, .ref b47, .ref b48, .ref b49, .ref b50, .ref b51, .ref b52, .ref b53, .ref b54, .ref b55, .ref b56, .ref b57, .ref b58, .ref b59, .ref b60, .ref b61, .ref b62, .ref b63])), (b60, .inl (g.2.1 2, 16, .inr (.inl (lf (chL n kw x 0 (fr + 1) (ca ||| 2 ^ o) (chO (fun o l => chL n kw x 0 (fr + 1) (if kw / 2 ^ fr % 2 = 1 then ca ||| 2 ^ o else ca) l) fr o la))))))] := hW
            have hst : chO (fun o l => chL n kw x 0 (fr + 1) (if kw / 2 ^ fr % 2 = 1 then ca ||| 2 ^ o else ca) l) fr (o + 1) la = chL n kw x 0 (fr + 1) (ca ||| 2 ^ o) (chO (fun o l => chL n kw x 0 (fr + 1) (if kw / 2 ^ fr % 2 = 1 then ca ||| 2 ^ o else ca) l) fr o la) := by
              rw [chO, if_neg hof, if_pos hbit]
            rw [← hst] at hW
            refine lv_iinc (v := nI (o + 1)) (lv' := [(7, .int (nI (o + 1))), (0, .ref h0), (1, .int (nI n)), (2, .int (nI kw)), (3, .int (nI fr)), (4, .int (nI ca)), (5, .long x)]) (pc := 67) hx hb dX12_choose_67 hl (k := 6) rfl (nI_1 o) (by decide) rfl (fun ls hl => ?_)
            refine lv_goto (tgt := 23) (pc := 70) hx hb dX12_choose_70 rfl ?_
            exact ih1 (o + 1) (by omega) (by omega) _ _ _ hW (lv_sub hl [1, 2, 3, 4, 5, 6, 0] rfl)
  exact loop1 (n + 1) 0 (by omega) (by omega) _ _ _ hW (lv_sub hl [1, 2, 3, 4, 5, 6, 0] rfl)

set_option maxHeartbeats 4000000 in
set_option maxRecDepth 100000 in
theorem C_chooseG_2 (l : Launch) (g : GG) (h0 b1 b6 b7 b8 b9 b10 b11 b12 b13 b14 b15 b16 b17 b21 b22 b23 b24 b25 b26 b28 b29 b30 b31 b32 b33 b34 b35 b36 b46 b47 b48 b49 b50 b51 b52 b53 b54 b55 b56 b57 b58 b59 b60 b61 b62 b63 : Nat) (i0 i2 i3 i4 i5 i18 i19 i20 i27 i37 i38 i39 i40 i41 i42 i43 i44 i45 : Int32) (n kw fr ca : Nat) (x : Int64) (la : List Int64) (hn4 : n ≤ 4) (hkw : kw < 16) (hca : ca < 16) (hla : la.length = 16) (hfr : fr + 2 = n) : MetV l g yX12_choose cX12_choose 8 none 2 0 0 [.ref h0, .int (nI n), .int (nI kw), .int (nI fr), .int (nI ca), .long x] [(h0, .inr (12, [.int i0, .ref b1, .int i2, .int i3, .int i4, .int i5, .ref b6, .ref b7, .ref b8, .ref b9, .ref b10, .ref b11, .ref b12, .ref b13, .ref b14, .ref b15, .ref b16, .ref b17, .int i18, .int i19, .int i20, .ref b21, .ref b22, .ref b23, .ref b24, .ref b25, .ref b26, .int i27, .ref b28, .ref b29, .ref b30, .ref b31, .ref b32, .ref b33, .ref b34, .ref b35, .ref b36, .int i37, .int i38, .int i39, .int i40, .int i41, .int i42, .int i43, .int i44, .int i45, .ref b46, .ref b47, .ref b48, .ref b49, .ref b50, .ref b51, .ref b52, .ref b53, .ref b54, .ref b55, .ref b56, .ref b57, .ref b58, .ref b59, .ref b60, .ref b61, .ref b62, .ref b63])), (b60, .inl (g.2.1 2, 16, .inr (.inl (lf (la)))))] (fun u => u = [(h0, .inr (12, [.int i0, .ref b1, .int i2, .int i3, .int i4, .int i5, .ref b6, .ref b7, .ref b8, .ref b9, .ref b10, .ref b11, .ref b12, .ref b13, .ref b14, .ref b15, .ref b16, .ref b17, .int i18, .int i19, .int i20, .ref b21, .ref b22, .ref b23, .ref b24, .ref b25, .ref b26, .int i27, .ref b28, .ref b29, .ref b30, .ref b31, .ref b32, .ref b33, .ref b34, .ref b35, .ref b36, .int i37, .int i38, .int i39, .int i40, .int i41, .int i42, .int i43, .int i44, .int i45, .ref b46, .ref b47, .ref b48, .ref b49, .ref b50, .ref b51, .ref b52, .ref b53, .ref b54, .ref b55, .ref b56, .ref b57, .ref b58, .ref b59, .ref b60, .ref b61, .ref b62, .ref b63])), (b60, .inl (g.2.1 2, 16, .inr (.inl (lf (chL n kw x 2 fr ca la)))))]) := by
  refine MetV.of (own := RX12) rfl (by decide) (Nat.le_of_ble_eq_true rfl) ?_
  intro p e s m below meth c A ls args Q hQ X hr hin hW hl
  have hx := X.1
  have hb := X.2.1
  have hl : lv_has ls 8 [(0, .ref h0), (1, .int (nI n)), (2, .int (nI kw)), (3, .int (nI fr)), (4, .int (nI ca)), (5, .long x)] := hl
  have hb2 : kw / 2 ^ fr % 2 < 2 := Nat.mod_lt _ (by decide)
  refine lv_iload_n (pc := 0) hx hb dX12_choose_0 rfl (lv_at hl 3 rfl) ?_
  refine lv_iload_n (pc := 1) hx hb dX12_choose_1 rfl (lv_at hl 1 rfl) ?_
  refine lv_icmp_ne (tgt := 20) (pc := 2) hx hb dX12_choose_2 rfl (fun c1 => ?_) (fun c1 => absurd c1 (fun q => absurd ((nI_eq (by omega) (by omega)).mp q) (by omega)))
  refine lv_iconst (v := 0) (pc := 20) hx hb dX12_choose_20 (by decide) ?_
  refine lv_istore (lv' := [(7, .int 0), (0, .ref h0), (1, .int (nI n)), (2, .int (nI kw)), (3, .int (nI fr)), (4, .int (nI ca)), (5, .long x)]) (pc := 21) hx hb dX12_choose_21 hl (by decide) rfl (fun ls hl => ?_)
  have loop1 : ∀ (fu : Nat) (o : Nat), (n < fu + o) → (o ≤ n) → ∀ (H : Heap) (locs : List Loc) (ls : Array Slot), WD g A s H locs [(h0, .inr (12, [.int i0, .ref b1, .int i2, .int i3, .int i4, .int i5, .ref b6, .ref b7, .ref b8, .ref b9, .ref b10, .ref b11, .ref b12, .ref b13, .ref b14, .ref b15, .ref b16, .ref b17, .int i18, .int i19, .int i20, .ref b21, .ref b22, .ref b23, .ref b24, .ref b25, .ref b26, .int i27, .ref b28, .ref b29, .ref b30, .ref b31, .ref b32, .ref b33, .ref b34, .ref b35, .ref b36, .int i37, .int i38, .int i39, .int i40, .int i41, .int i42, .int i43, .int i44, .int i45, .ref b46, .ref b47, .ref b48, .ref b49, .ref b50, .ref b51, .ref b52, .ref b53, .ref b54, .ref b55, .ref b56, .ref b57, .ref b58, .ref b59, .ref b60, .ref b61, .ref b62, .ref b63])), (b60, .inl (g.2.1 2, 16, .inr (.inl (lf (chO (fun o l => chL n kw x 1 (fr + 1) (if kw / 2 ^ fr % 2 = 1 then ca ||| 2 ^ o else ca) l) fr o la)))))] → lv_has ls 8 [(0, .ref h0), (1, .int (nI n)), (2, .int (nI kw)), (3, .int (nI fr)), (4, .int (nI ca)), (5, .long x), (7, .int (nI o))] → W p l e (RM 2 0 0) s m args below meth c H locs 0 0 Q (F0 m 23 ls []) := by
    intro fu
    induction fu with
    | zero =>
      intro o hm ho
      exact absurd hm (by omega)
    | succ fu ih1 =>
      intro o hm ho H locs ls hW hl
      refine lv_iload (pc := 23) hx hb dX12_choose_23 (lv_at hl 6 rfl) ?_
      refine lv_iload_n (pc := 25) hx hb dX12_choose_25 rfl (lv_at hl 1 rfl) ?_
      refine lv_icmp_ge (tgt := 73) (pc := 26) hx hb dX12_choose_26 rfl (fun c2 => ?_) (fun c2 => ?_)
      · have hon : o = n := by have := ge_t (k := n) (by omega) (by omega) c2; omega
        rw [hon] at hW
        exact e_v X hQ hr hW (u := [(h0, .inr (12, [.int i0, .ref b1, .int i2, .int i3, .int i4, .int i5, .ref b6, .ref b7, .ref b8, .ref b9, .ref b10, .ref b11, .ref b12, .ref b13, .ref b14, .ref b15, .ref b16, .ref b17, .int i18, .int i19, .int i20, .ref b21, .ref b22, .ref b23, .ref b24, .ref b25, .ref b26, .int i27, .ref b28, .ref b29, .ref b30, .ref b31, .ref b32, .ref b33, .ref b34, .ref b35, .ref b36, .int i37, .int i38, .int i39, .int i40, .int i41, .int i42, .int i43, .int i44, .int i45, .ref b46, .ref b47, .ref b48, .ref b49, .ref b50, .ref b51, .ref b52, .ref b53, .ref b54, .ref b55, .ref b56, .ref b57, .ref b58, .ref b59, .ref b60, .ref b61, .ref b62, .ref b63])), (b60, .inl (g.2.1 2, 16, .inr (.inl (lf (chL n kw x 2 fr ca la)))))]) [0, 1] rfl rfl (rfl) ⟨Nat.le_of_ble_eq_true rfl, Nat.le_of_ble_eq_true rfl⟩ dX12_choose_73
      · have hlo : o < n := ge_f (by omega) (by omega) c2
        refine lv_iload (pc := 29) hx hb dX12_choose_29 (lv_at hl 6 rfl) ?_
        refine lv_iload_n (pc := 31) hx hb dX12_choose_31 rfl (lv_at hl 3 rfl) ?_
        refine lv_icmp_eq (tgt := 67) (pc := 32) hx hb dX12_choose_32 rfl (fun c3 => ?_) (fun c3 => ?_)
        · have hof : o = fr := (nI_eq (by omega) (by omega)).mp c3
          have hst : chO (fun o l => chL n kw x 1 (fr + 1) (if kw / 2 ^ fr % 2 = 1 then ca ||| 2 ^ o else ca) l) fr (o + 1) la = chO (fun o l => chL n kw x 1 (fr + 1) (if kw / 2 ^ fr % 2 = 1 then ca ||| 2 ^ o else ca) l) fr o la := if_pos hof
          rw [← hst] at hW
          refine lv_iinc (v := nI (o + 1)) (lv' := [(7, .int (nI (o + 1))), (0, .ref h0), (1, .int (nI n)), (2, .int (nI kw)), (3, .int (nI fr)), (4, .int (nI ca)), (5, .long x)]) (pc := 67) hx hb dX12_choose_67 hl (k := 6) rfl (nI_1 o) (by decide) rfl (fun ls hl => ?_)
          refine lv_goto (tgt := 23) (pc := 70) hx hb dX12_choose_70 rfl ?_
          exact ih1 (o + 1) (by omega) (by omega) _ _ _ hW (lv_sub hl [1, 2, 3, 4, 5, 6, 0] rfl)
        · have hof : ¬ o = fr := fun q => c3 (congrArg nI q)
          refine lv_aload_n (pc := 35) hx hb dX12_choose_35 rfl (lv_at hl 0 rfl) ?_
          refine lv_iload_n (pc := 36) hx hb dX12_choose_36 rfl (lv_at hl 1 rfl) ?_
          refine lv_iload_n (pc := 37) hx hb dX12_choose_37 rfl (lv_at hl 2 rfl) ?_
          refine lv_iload_n (pc := 38) hx hb dX12_choose_38 rfl (lv_at hl 3 rfl) ?_
          refine lv_iconst (v := 1) (pc := 39) hx hb dX12_choose_39 (by decide) ?_
          refine lv_iadd (pc := 40) hx hb dX12_choose_40 ?_
          refine lv_topi (fun v4 ev4 => ?_)
          obtain rfl : v4 = nI (fr + 1) := ev4.trans (nI_1 fr)
          refine lv_iload_n (pc := 41) hx hb dX12_choose_41 rfl (lv_at hl 2 rfl) ?_
          refine lv_iload_n (pc := 42) hx hb dX12_choose_42 rfl (lv_at hl 3 rfl) ?_
          refine lv_ishr (pc := 43) hx hb dX12_choose_43 ?_
          refine lv_topi (fun v5 ev5 => ?_)
          obtain rfl : v5 = nI (kw / 2 ^ fr) := ev5.trans (shr_n kw hkw fr (by omega))
          refine lv_iconst (v := 1) (pc := 44) hx hb dX12_choose_44 (by decide) ?_
          refine lv_iand (pc := 45) hx hb dX12_choose_45 ?_
          refine lv_topi (fun v6 ev6 => ?_)
          obtain rfl : v6 = nI (kw / 2 ^ fr % 2) := ev6.trans (and_1 _ (Nat.lt_of_le_of_lt (Nat.div_le_self _ _) hkw))
          refine lv_iconst (v := 1) (pc := 46) hx hb dX12_choose_46 (by decide) ?_
          refine lv_icmp_ne (tgt := 60) (pc := 47) hx hb dX12_choose_47 rfl (fun c7 => ?_) (fun c7 => ?_)
          · have hbit : ¬ kw / 2 ^ fr % 2 = 1 := fun q => c7 (congrArg nI q)
            refine lv_iload (pc := 60) hx hb dX12_choose_60 (lv_at hl 4 rfl) ?_
            refine lv_lload (pc := 62) hx hb dX12_choose_62 (lv_at hl 5 rfl) ?_
            refine c_Vv (pc := 64) (As := [.int (nI n), .int (nI kw), .int (nI (fr + 1)), .int (nI ca), .long x]) (rest := []) (wr := []) X hW 0 ciX12 rfl (C_chooseG_1 l g h0 b1 b6 b7 b8 b9 b10 b11 b12 b13 b14 b15 b16 b17 b21 b22 b23 b24 b25 b26 b28 b29 b30 b31 b32 b33 b34 b35 b36 b46 b47 b48 b49 b50 b51 b52 b53 b54 b55 b56 b57 b58 b59 b60 b61 b62 b63 i0 i2 i3 i4 i5 i18 i19 i20 i27 i37 i38 i39 i40 i41 i42 i43 i44 i45 n kw (fr + 1) ca x (chO (fun o l => chL n kw x 1 (fr + 1) (if kw / 2 ^ fr % 2 = 1 then ca ||| 2 ^ o else ca) l) fr o la) hn4 hkw hca (by rw [chO_len fr (fun o l => chL_len n kw x 1 _ _ l), hla]) (by omega)) vX12_388 [0, 1] [] rfl rfl rfl rfl rfl rfl hl.1 rfl (Nat.le_of_ble_eq_true rfl) ⟨Nat.le_of_ble_eq_true rfl, Nat.le_of_ble_eq_true rfl⟩ ⟨Nat.le_of_ble_eq_true rfl, Nat.le_of_ble_eq_true rfl⟩ dX12_choose_64 (fun u9 H locs hq hW => ?_)
            obtain rfl := hq
            have hW : WD g A s _ _ [(h0, .inr (12, [.int i0, .ref b1, .int i2, .int i3, .int i4, .int i5, .ref b6, .ref b7, .ref b8, .ref b9, .ref b10, .ref b11, .ref b12, .ref b13, .ref b14, .ref b15, .ref b16, .ref b17, .int i18, .int i19, .int i20, .ref b21, .ref b22, .ref b23, .ref b24, .ref b25, .ref b26, .int i27, .ref b28, .ref b29, .ref b30, .ref b31, .ref b32, .ref b33, .ref b34, .ref b35, .ref b36, .int i37, .int i38, .int i39, .int i40, .int i41, .int i42, .int i43, .int i44, .int i45, .ref b46, .ref b47, .ref b48, .ref b49, .ref b50, .ref b51, .ref b52, .ref b53, .ref b54, .ref b55, .ref b56, .ref b57, .ref b58, .ref b59, .ref b60, .ref b61, .ref b62, .ref b63])), (b60, .inl (g.2.1 2, 16, .inr (.inl (lf (chL n kw x 1 (fr + 1) ca (chO (fun o l => chL n kw x 1 (fr + 1) (if kw / 2 ^ fr % 2 = 1 then ca ||| 2 ^ o else ca) l) fr o la))))))] := hW
            have hst : chO (fun o l => chL n kw x 1 (fr + 1) (if kw / 2 ^ fr % 2 = 1 then ca ||| 2 ^ o else ca) l) fr (o + 1) la = chL n kw x 1 (fr + 1) ca (chO (fun o l => chL n kw x 1 (fr + 1) (if kw / 2 ^ fr % 2 = 1 then ca ||| 2 ^ o else ca) l) fr o la) := by
              rw [chO, if_neg hof, if_neg hbit]
            rw [← hst] at hW
            refine lv_iinc (v := nI (o + 1)) (lv' := [(7, .int (nI (o + 1))), (0, .ref h0), (1, .int (nI n)), (2, .int (nI kw)), (3, .int (nI fr)), (4, .int (nI ca)), (5, .long x)]) (pc := 67) hx hb dX12_choose_67 hl (k := 6) rfl (nI_1 o) (by decide) rfl (fun ls hl => ?_)
            refine lv_goto (tgt := 23) (pc := 70) hx hb dX12_choose_70 rfl ?_
            exact ih1 (o + 1) (by omega) (by omega) _ _ _ hW (lv_sub hl [1, 2, 3, 4, 5, 6, 0] rfl)
          · have hbit : kw / 2 ^ fr % 2 = 1 := (nI_eq (by omega) (by decide)).mp c7
            refine lv_iload (pc := 50) hx hb dX12_choose_50 (lv_at hl 4 rfl) ?_
            refine lv_iconst (v := 1) (pc := 52) hx hb dX12_choose_52 (by decide) ?_
            refine lv_iload (pc := 53) hx hb dX12_choose_53 (lv_at hl 6 rfl) ?_
            refine lv_ishl (pc := 55) hx hb dX12_choose_55 ?_
            refine lv_topi (fun v8 ev8 => ?_)
            obtain rfl : v8 = nI (2 ^ o) := ev8.trans (shl_n o (by omega))
            refine lv_ior (pc := 56) hx hb dX12_choose_56 ?_
            refine lv_topi (fun v9 ev9 => ?_)
            obtain rfl : v9 = nI (ca ||| 2 ^ o) := ev9.trans (fa_or _ _)
            refine lv_goto (tgt := 62) (pc := 57) hx hb dX12_choose_57 rfl ?_
            refine lv_lload (pc := 62) hx hb dX12_choose_62 (lv_at hl 5 rfl) ?_
            refine c_Vv (pc := 64) (As := [.int (nI n), .int (nI kw), .int (nI (fr + 1)), .int (nI (ca ||| 2 ^ o)), .long x]) (rest := []) (wr := []) X hW 0 ciX12 rfl (C_chooseG_1 l g h0 b1 b6 b7 b8 b9 b10 b11 b12 b13 b14 b15 b16 b17 b21 b22 b23 b24 b25 b26 b28 b29 b30 b31 b32 b33 b34 b35 b36 b46 b47 b48 b49 b50 b51 b52 b53 b54 b55 b56 b57 b58 b59 b60 b61 b62 b63 i0 i2 i3 i4 i5 i18 i19 i20 i27 i37 i38 i39 i40 i41 i42 i43 i44 i45 n kw (fr + 1) (ca ||| 2 ^ o) x (chO (fun o l => chL n kw x 1 (fr + 1) (if kw / 2 ^ fr % 2 = 1 then ca ||| 2 ^ o else ca) l) fr o la) hn4 hkw (Nat.or_lt_two_pow (n := 4) hca (p2_4 o (by omega))) (by rw [chO_len fr (fun o l => chL_len n kw x 1 _ _ l), hla]) (by omega)) vX12_388 [0, 1] [] rfl rfl rfl rfl rfl rfl hl.1 rfl (Nat.le_of_ble_eq_true rfl) ⟨Nat.le_of_ble_eq_true rfl, Nat.le_of_ble_eq_true rfl⟩ ⟨Nat.le_of_ble_eq_true rfl, Nat.le_of_ble_eq_true rfl⟩ dX12_choose_64 (fun u9 H locs hq hW => ?_)
            obtain rfl := hq
            have hW : WD g A s _ _ [(h0, .inr (12, [.int i0, .ref b1, .int i2, .int i3, .int i4, .int i5, .ref b6, .ref b7, .ref b8, .ref b9, .ref b10, .ref b11, .ref b12, .ref b13, .ref b14, .ref b15, .ref b16, .ref b17, .int i18, .int i19, .int i20, .ref b21, .ref b22, .ref b23, .ref b24, .ref b25, .ref b26, .int i27, .ref b28, .ref b29, .ref b30, .ref b31, .ref b32, .ref b33, .ref b34, .ref b35, .ref b36, .int i37, .int i38, .int i39, .int i40, .int i41, .int i42, .int i43, .int i44, .int i45, .ref b46, .ref b47, .ref b48, .ref b49, .ref b50, .ref b51, .ref b52, .ref b53, .ref b54, .ref b55, .ref b56, .ref b57, .ref b58, .ref b59, .ref b60, .ref b61, .ref b62, .ref b63])), (b60, .inl (g.2.1 2, 16, .inr (.inl (lf (chL n kw x 1 (fr + 1) (ca ||| 2 ^ o) (chO (fun o l => chL n kw x 1 (fr + 1) (if kw / 2 ^ fr % 2 = 1 then ca ||| 2 ^ o else ca) l) fr o la))))))] := hW
            have hst : chO (fun o l => chL n kw x 1 (fr + 1) (if kw / 2 ^ fr % 2 = 1 then ca ||| 2 ^ o else ca) l) fr (o + 1) la = chL n kw x 1 (fr + 1) (ca ||| 2 ^ o) (chO (fun o l => chL n kw x 1 (fr + 1) (if kw / 2 ^ fr % 2 = 1 then ca ||| 2 ^ o else ca) l) fr o la) := by
              rw [chO, if_neg hof, if_pos hbit]
            rw [← hst] at hW
            refine lv_iinc (v := nI (o + 1)) (lv' := [(7, .int (nI (o + 1))), (0, .ref h0), (1, .int (nI n)), (2, .int (nI kw)), (3, .int (nI fr)), (4, .int (nI ca)), (5, .long x)]) (pc := 67) hx hb dX12_choose_67 hl (k := 6) rfl (nI_1 o) (by decide) rfl (fun ls hl => ?_)
            refine lv_goto (tgt := 23) (pc := 70) hx hb dX12_choose_70 rfl ?_
            exact ih1 (o + 1) (by omega) (by omega) _ _ _ hW (lv_sub hl [1, 2, 3, 4, 5, 6, 0] rfl)
  exact loop1 (n + 1) 0 (by omega) (by omega) _ _ _ hW (lv_sub hl [1, 2, 3, 4, 5, 6, 0] rfl)

set_option maxHeartbeats 4000000 in
set_option maxRecDepth 100000 in
theorem C_chooseG_3 (l : Launch) (g : GG) (h0 b1 b6 b7 b8 b9 b10 b11 b12 b13 b14 b15 b16 b17 b21 b22 b23 b24 b25 b26 b28 b29 b30 b31 b32 b33 b34 b35 b36 b46 b47 b48 b49 b50 b51 b52 b53 b54 b55 b56 b57 b58 b59 b60 b61 b62 b63 : Nat) (i0 i2 i3 i4 i5 i18 i19 i20 i27 i37 i38 i39 i40 i41 i42 i43 i44 i45 : Int32) (n kw fr ca : Nat) (x : Int64) (la : List Int64) (hn4 : n ≤ 4) (hkw : kw < 16) (hca : ca < 16) (hla : la.length = 16) (hfr : fr + 3 = n) : MetV l g yX12_choose cX12_choose 8 none 3 0 0 [.ref h0, .int (nI n), .int (nI kw), .int (nI fr), .int (nI ca), .long x] [(h0, .inr (12, [.int i0, .ref b1, .int i2, .int i3, .int i4, .int i5, .ref b6, .ref b7, .ref b8, .ref b9, .ref b10, .ref b11, .ref b12, .ref b13, .ref b14, .ref b15, .ref b16, .ref b17, .int i18, .int i19, .int i20, .ref b21, .ref b22, .ref b23, .ref b24, .ref b25, .ref b26, .int i27, .ref b28, .ref b29, .ref b30, .ref b31, .ref b32, .ref b33, .ref b34, .ref b35, .ref b36, .int i37, .int i38, .int i39, .int i40, .int i41, .int i42, .int i43, .int i44, .int i45, .ref b46, .ref b47, .ref b48, .ref b49, .ref b50, .ref b51, .ref b52, .ref b53, .ref b54, .ref b55, .ref b56, .ref b57, .ref b58, .ref b59, .ref b60, .ref b61, .ref b62, .ref b63])), (b60, .inl (g.2.1 2, 16, .inr (.inl (lf (la)))))] (fun u => u = [(h0, .inr (12, [.int i0, .ref b1, .int i2, .int i3, .int i4, .int i5, .ref b6, .ref b7, .ref b8, .ref b9, .ref b10, .ref b11, .ref b12, .ref b13, .ref b14, .ref b15, .ref b16, .ref b17, .int i18, .int i19, .int i20, .ref b21, .ref b22, .ref b23, .ref b24, .ref b25, .ref b26, .int i27, .ref b28, .ref b29, .ref b30, .ref b31, .ref b32, .ref b33, .ref b34, .ref b35, .ref b36, .int i37, .int i38, .int i39, .int i40, .int i41, .int i42, .int i43, .int i44, .int i45, .ref b46, .ref b47, .ref b48, .ref b49, .ref b50, .ref b51, .ref b52, .ref b53, .ref b54, .ref b55, .ref b56, .ref b57, .ref b58, .ref b59, .ref b60, .ref b61, .ref b62, .ref b63])), (b60, .inl (g.2.1 2, 16, .inr (.inl (lf (chL n kw x 3 fr ca la)))))]) := by
  refine MetV.of (own := RX12) rfl (by decide) (Nat.le_of_ble_eq_true rfl) ?_
  intro p e s m below meth c A ls args Q hQ X hr hin hW hl
  have hx := X.1
  have hb := X.2.1
  have hl : lv_has ls 8 [(0, .ref h0), (1, .int (nI n)), (2, .int (nI kw)), (3, .int (nI fr)), (4, .int (nI ca)), (5, .long x)] := hl
  have hb2 : kw / 2 ^ fr % 2 < 2 := Nat.mod_lt _ (by decide)
  refine lv_iload_n (pc := 0) hx hb dX12_choose_0 rfl (lv_at hl 3 rfl) ?_
  refine lv_iload_n (pc := 1) hx hb dX12_choose_1 rfl (lv_at hl 1 rfl) ?_
  refine lv_icmp_ne (tgt := 20) (pc := 2) hx hb dX12_choose_2 rfl (fun c1 => ?_) (fun c1 => absurd c1 (fun q => absurd ((nI_eq (by omega) (by omega)).mp q) (by omega)))
  refine lv_iconst (v := 0) (pc := 20) hx hb dX12_choose_20 (by decide) ?_
  refine lv_istore (lv' := [(7, .int 0), (0, .ref h0), (1, .int (nI n)), (2, .int (nI kw)), (3, .int (nI fr)), (4, .int (nI ca)), (5, .long x)]) (pc := 21) hx hb dX12_choose_21 hl (by decide) rfl (fun ls hl => ?_)
  have loop1 : ∀ (fu : Nat) (o : Nat), (n < fu + o) → (o ≤ n) → ∀ (H : Heap) (locs : List Loc) (ls : Array Slot), WD g A s H locs [(h0, .inr (12, [.int i0, .ref b1, .int i2, .int i3, .int i4, .int i5, .ref b6, .ref b7, .ref b8, .ref b9, .ref b10, .ref b11, .ref b12, .ref b13, .ref b14, .ref b15, .ref b16, .ref b17, .int i18, .int i19, .int i20, .ref b21, .ref b22, .ref b23, .ref b24, .ref b25, .ref b26, .int i27, .ref b28, .ref b29, .ref b30, .ref b31, .ref b32, .ref b33, .ref b34, .ref b35, .ref b36, .int i37, .int i38, .int i39, .int i40, .int i41, .int i42, .int i43, .int i44, .int i45, .ref b46, .ref b47, .ref b48, .ref b49, .ref b50, .ref b51, .ref b52, .ref b53, .ref b54, .ref b55, .ref b56, .ref b57, .ref b58, .ref b59, .ref b60, .ref b61, .ref b62, .ref b63])), (b60, .inl (g.2.1 2, 16, .inr (.inl (lf (chO (fun o l => chL n kw x 2 (fr + 1) (if kw / 2 ^ fr % 2 = 1 then ca ||| 2 ^ o else ca) l) fr o la)))))] → lv_has ls 8 [(0, .ref h0), (1, .int (nI n)), (2, .int (nI kw)), (3, .int (nI fr)), (4, .int (nI ca)), (5, .long x), (7, .int (nI o))] → W p l e (RM 3 0 0) s m args below meth c H locs 0 0 Q (F0 m 23 ls []) := by
    intro fu
    induction fu with
    | zero =>
      intro o hm ho
      exact absurd hm (by omega)
    | succ fu ih1 =>
      intro o hm ho H locs ls hW hl
      refine lv_iload (pc := 23) hx hb dX12_choose_23 (lv_at hl 6 rfl) ?_
      refine lv_iload_n (pc := 25) hx hb dX12_choose_25 rfl (lv_at hl 1 rfl) ?_
      refine lv_icmp_ge (tgt := 73) (pc := 26) hx hb dX12_choose_26 rfl (fun c2 => ?_) (fun c2 => ?_)
      · have hon : o = n := by have := ge_t (k := n) (by omega) (by omega) c2; omega
        rw [hon] at hW
        exact e_v X hQ hr hW (u := [(h0, .inr (12, [.int i0, .ref b1, .int i2, .int i3, .int i4, .int i5, .ref b6, .ref b7, .ref b8, .ref b9, .ref b10, .ref b11, .ref b12, .ref b13, .ref b14, .ref b15, .ref b16, .ref b17, .int i18, .int i19, .int i20, .ref b21, .ref b22, .ref b23, .ref b24, .ref b25, .ref b26, .int i27, .ref b28, .ref b29, .ref b30, .ref b31, .ref b32, .ref b33, .ref b34, .ref b35, .ref b36, .int i37, .int i38, .int i39, .int i40, .int i41, .int i42, .int i43, .int i44, .int i45, .ref b46, .ref b47, .ref b48, .ref b49, .ref b50, .ref b51, .ref b52, .ref b53, .ref b54, .ref b55, .ref b56, .ref b57, .ref b58, .ref b59, .ref b60, .ref b61, .ref b62, .ref b63])), (b60, .inl (g.2.1 2, 16, .inr (.inl (lf (chL n kw x 3 fr ca la)))))]) [0, 1] rfl rfl (rfl) ⟨Nat.le_of_ble_eq_true rfl, Nat.le_of_ble_eq_true rfl⟩ dX12_choose_73
      · have hlo : o < n := ge_f (by omega) (by omega) c2
        refine lv_iload (pc := 29) hx hb dX12_choose_29 (lv_at hl 6 rfl) ?_
        refine lv_iload_n (pc := 31) hx hb dX12_choose_31 rfl (lv_at hl 3 rfl) ?_
        refine lv_icmp_eq (tgt := 67) (pc := 32) hx hb dX12_choose_32 rfl (fun c3 => ?_) (fun c3 => ?_)
        · have hof : o = fr := (nI_eq (by omega) (by omega)).mp c3
          have hst : chO (fun o l => chL n kw x 2 (fr + 1) (if kw / 2 ^ fr % 2 = 1 then ca ||| 2 ^ o else ca) l) fr (o + 1) la = chO (fun o l => chL n kw x 2 (fr + 1) (if kw / 2 ^ fr % 2 = 1 then ca ||| 2 ^ o else ca) l) fr o la := if_pos hof
          rw [← hst] at hW
          refine lv_iinc (v := nI (o + 1)) (lv' := [(7, .int (nI (o + 1))), (0, .ref h0), (1, .int (nI n)), (2, .int (nI kw)), (3, .int (nI fr)), (4, .int (nI ca)), (5, .long x)]) (pc := 67) hx hb dX12_choose_67 hl (k := 6) rfl (nI_1 o) (by decide) rfl (fun ls hl => ?_)
          refine lv_goto (tgt := 23) (pc := 70) hx hb dX12_choose_70 rfl ?_
          exact ih1 (o + 1) (by omega) (by omega) _ _ _ hW (lv_sub hl [1, 2, 3, 4, 5, 6, 0] rfl)
        · have hof : ¬ o = fr := fun q => c3 (congrArg nI q)
          refine lv_aload_n (pc := 35) hx hb dX12_choose_35 rfl (lv_at hl 0 rfl) ?_
          refine lv_iload_n (pc := 36) hx hb dX12_choose_36 rfl (lv_at hl 1 rfl) ?_
          refine lv_iload_n (pc := 37) hx hb dX12_choose_37 rfl (lv_at hl 2 rfl) ?_
          refine lv_iload_n (pc := 38) hx hb dX12_choose_38 rfl (lv_at hl 3 rfl) ?_
          refine lv_iconst (v := 1) (pc := 39) hx hb dX12_choose_39 (by decide) ?_
          refine lv_iadd (pc := 40) hx hb dX12_choose_40 ?_
          refine lv_topi (fun v4 ev4 => ?_)
          obtain rfl : v4 = nI (fr + 1) := ev4.trans (nI_1 fr)
          refine lv_iload_n (pc := 41) hx hb dX12_choose_41 rfl (lv_at hl 2 rfl) ?_
          refine lv_iload_n (pc := 42) hx hb dX12_choose_42 rfl (lv_at hl 3 rfl) ?_
          refine lv_ishr (pc := 43) hx hb dX12_choose_43 ?_
          refine lv_topi (fun v5 ev5 => ?_)
          obtain rfl : v5 = nI (kw / 2 ^ fr) := ev5.trans (shr_n kw hkw fr (by omega))
          refine lv_iconst (v := 1) (pc := 44) hx hb dX12_choose_44 (by decide) ?_
          refine lv_iand (pc := 45) hx hb dX12_choose_45 ?_
          refine lv_topi (fun v6 ev6 => ?_)
          obtain rfl : v6 = nI (kw / 2 ^ fr % 2) := ev6.trans (and_1 _ (Nat.lt_of_le_of_lt (Nat.div_le_self _ _) hkw))
          refine lv_iconst (v := 1) (pc := 46) hx hb dX12_choose_46 (by decide) ?_
          refine lv_icmp_ne (tgt := 60) (pc := 47) hx hb dX12_choose_47 rfl (fun c7 => ?_) (fun c7 => ?_)
          · have hbit : ¬ kw / 2 ^ fr % 2 = 1 := fun q => c7 (congrArg nI q)
            refine lv_iload (pc := 60) hx hb dX12_choose_60 (lv_at hl 4 rfl) ?_
            refine lv_lload (pc := 62) hx hb dX12_choose_62 (lv_at hl 5 rfl) ?_
            refine c_Vv (pc := 64) (As := [.int (nI n), .int (nI kw), .int (nI (fr + 1)), .int (nI ca), .long x]) (rest := []) (wr := []) X hW 0 ciX12 rfl (C_chooseG_2 l g h0 b1 b6 b7 b8 b9 b10 b11 b12 b13 b14 b15 b16 b17 b21 b22 b23 b24 b25 b26 b28 b29 b30 b31 b32 b33 b34 b35 b36 b46 b47 b48 b49 b50 b51 b52 b53 b54 b55 b56 b57 b58 b59 b60 b61 b62 b63 i0 i2 i3 i4 i5 i18 i19 i20 i27 i37 i38 i39 i40 i41 i42 i43 i44 i45 n kw (fr + 1) ca x (chO (fun o l => chL n kw x 2 (fr + 1) (if kw / 2 ^ fr % 2 = 1 then ca ||| 2 ^ o else ca) l) fr o la) hn4 hkw hca (by rw [chO_len fr (fun o l => chL_len n kw x 2 _ _ l), hla]) (by omega)) vX12_388 [0, 1] [] rfl rfl rfl rfl rfl rfl hl.1 rfl (Nat.le_of_ble_eq_true rfl) ⟨Nat.le_of_ble_eq_true rfl, Nat.le_of_ble_eq_true rfl⟩ ⟨Nat.le_of_ble_eq_true rfl, Nat.le_of_ble_eq_true rfl⟩ dX12_choose_64 (fun u9 H locs hq hW => ?_)
            obtain rfl := hq
            have hW : WD g A s _ _ [(h0, .inr (12, [.int i0, .ref b1, .int i2, .int i3, .int i4, .int i5, .ref b6, .ref b7, .ref b8, .ref b9, .ref b10, .ref b11, .ref b12, .ref b13, .ref b14, .ref b15, .ref b16, .ref b17, .int i18, .int i19, .int i20, .ref b21, .ref b22, .ref b23, .ref b24, .ref b25, .ref b26, .int i27, .ref b28, .ref b29, .ref b30, .ref b31, .ref b32, .ref b33, .ref b34, .ref b35, .ref b36, .int i37, .int i38, .int i39, .int i40, .int i41, .int i42, .int i43, .int i44, .int i45, .ref b46, .ref b47, .ref b48, .ref b49, .ref b50, .ref b51, .ref b52, .ref b53, .ref b54, .ref b55, .ref b56, .ref b57, .ref b58, .ref b59, .ref b60, .ref b61, .ref b62, .ref b63])), (b60, .inl (g.2.1 2, 16, .inr (.inl (lf (chL n kw x 2 (fr + 1) ca (chO (fun o l => chL n kw x 2 (fr + 1) (if kw / 2 ^ fr % 2 = 1 then ca ||| 2 ^ o else ca) l) fr o la))))))] := hW
            have hst : chO (fun o l => chL n kw x 2 (fr + 1) (if kw / 2 ^ fr % 2 = 1 then ca ||| 2 ^ o else ca) l) fr (o + 1) la = chL n kw x 2 (fr + 1) ca (chO (fun o l => chL n kw x 2 (fr + 1) (if kw / 2 ^ fr % 2 = 1 then ca ||| 2 ^ o else ca) l) fr o la) := by
              rw [chO, if_neg hof, if_neg hbit]
            rw [← hst] at hW
            refine lv_iinc (v := nI (o + 1)) (lv' := [(7, .int (nI (o + 1))), (0, .ref h0), (1, .int (nI n)), (2, .int (nI kw)), (3, .int (nI fr)), (4, .int (nI ca)), (5, .long x)]) (pc := 67) hx hb dX12_choose_67 hl (k := 6) rfl (nI_1 o) (by decide) rfl (fun ls hl => ?_)
            refine lv_goto (tgt := 23) (pc := 70) hx hb dX12_choose_70 rfl ?_
            exact ih1 (o + 1) (by omega) (by omega) _ _ _ hW (lv_sub hl [1, 2, 3, 4, 5, 6, 0] rfl)
          · have hbit : kw / 2 ^ fr % 2 = 1 := (nI_eq (by omega) (by decide)).mp c7
            refine lv_iload (pc := 50) hx hb dX12_choose_50 (lv_at hl 4 rfl) ?_
            refine lv_iconst (v := 1) (pc := 52) hx hb dX12_choose_52 (by decide) ?_
            refine lv_iload (pc := 53) hx hb dX12_choose_53 (lv_at hl 6 rfl) ?_
            refine lv_ishl (pc := 55) hx hb dX12_choose_55 ?_
            refine lv_topi (fun v8 ev8 => ?_)
            obtain rfl : v8 = nI (2 ^ o) := ev8.trans (shl_n o (by omega))
            refine lv_ior (pc := 56) hx hb dX12_choose_56 ?_
            refine lv_topi (fun v9 ev9 => ?_)
            obtain rfl : v9 = nI (ca ||| 2 ^ o) := ev9.trans (fa_or _ _)
            refine lv_goto (tgt := 62) (pc := 57) hx hb dX12_choose_57 rfl ?_
            refine lv_lload (pc := 62) hx hb dX12_choose_62 (lv_at hl 5 rfl) ?_
            refine c_Vv (pc := 64) (As := [.int (nI n), .int (nI kw), .int (nI (fr + 1)), .int (nI (ca ||| 2 ^ o)), .long x]) (rest := []) (wr := []) X hW 0 ciX12 rfl (C_chooseG_2 l g h0 b1 b6 b7 b8 b9 b10 b11 b12 b13 b14 b15 b16 b17 b21 b22 b23 b24 b25 b26 b28 b29 b30 b31 b32 b33 b34 b35 b36 b46 b47 b48 b49 b50 b51 b52 b53 b54 b55 b56 b57 b58 b59 b60 b61 b62 b63 i0 i2 i3 i4 i5 i18 i19 i20 i27 i37 i38 i39 i40 i41 i42 i43 i44 i45 n kw (fr + 1) (ca ||| 2 ^ o) x (chO (fun o l => chL n kw x 2 (fr + 1) (if kw / 2 ^ fr % 2 = 1 then ca ||| 2 ^ o else ca) l) fr o la) hn4 hkw (Nat.or_lt_two_pow (n := 4) hca (p2_4 o (by omega))) (by rw [chO_len fr (fun o l => chL_len n kw x 2 _ _ l), hla]) (by omega)) vX12_388 [0, 1] [] rfl rfl rfl rfl rfl rfl hl.1 rfl (Nat.le_of_ble_eq_true rfl) ⟨Nat.le_of_ble_eq_true rfl, Nat.le_of_ble_eq_true rfl⟩ ⟨Nat.le_of_ble_eq_true rfl, Nat.le_of_ble_eq_true rfl⟩ dX12_choose_64 (fun u9 H locs hq hW => ?_)
            obtain rfl := hq
            have hW : WD g A s _ _ [(h0, .inr (12, [.int i0, .ref b1, .int i2, .int i3, .int i4, .int i5, .ref b6, .ref b7, .ref b8, .ref b9, .ref b10, .ref b11, .ref b12, .ref b13, .ref b14, .ref b15, .ref b16, .ref b17, .int i18, .int i19, .int i20, .ref b21, .ref b22, .ref b23, .ref b24, .ref b25, .ref b26, .int i27, .ref b28, .ref b29, .ref b30, .ref b31, .ref b32, .ref b33, .ref b34, .ref b35, .ref b36, .int i37, .int i38, .int i39, .int i40, .int i41, .int i42, .int i43, .int i44, .int i45, .ref b46, .ref b47, .ref b48, .ref b49, .ref b50, .ref b51, .ref b52, .ref b53, .ref b54, .ref b55, .ref b56, .ref b57, .ref b58, .ref b59, .ref b60, .ref b61, .ref b62, .ref b63])), (b60, .inl (g.2.1 2, 16, .inr (.inl (lf (chL n kw x 2 (fr + 1) (ca ||| 2 ^ o) (chO (fun o l => chL n kw x 2 (fr + 1) (if kw / 2 ^ fr % 2 = 1 then ca ||| 2 ^ o else ca) l) fr o la))))))] := hW
            have hst : chO (fun o l => chL n kw x 2 (fr + 1) (if kw / 2 ^ fr % 2 = 1 then ca ||| 2 ^ o else ca) l) fr (o + 1) la = chL n kw x 2 (fr + 1) (ca ||| 2 ^ o) (chO (fun o l => chL n kw x 2 (fr + 1) (if kw / 2 ^ fr % 2 = 1 then ca ||| 2 ^ o else ca) l) fr o la) := by
              rw [chO, if_neg hof, if_pos hbit]
            rw [← hst] at hW
            refine lv_iinc (v := nI (o + 1)) (lv' := [(7, .int (nI (o + 1))), (0, .ref h0), (1, .int (nI n)), (2, .int (nI kw)), (3, .int (nI fr)), (4, .int (nI ca)), (5, .long x)]) (pc := 67) hx hb dX12_choose_67 hl (k := 6) rfl (nI_1 o) (by decide) rfl (fun ls hl => ?_)
            refine lv_goto (tgt := 23) (pc := 70) hx hb dX12_choose_70 rfl ?_
            exact ih1 (o + 1) (by omega) (by omega) _ _ _ hW (lv_sub hl [1, 2, 3, 4, 5, 6, 0] rfl)
  exact loop1 (n + 1) 0 (by omega) (by omega) _ _ _ hW (lv_sub hl [1, 2, 3, 4, 5, 6, 0] rfl)

set_option maxHeartbeats 4000000 in
set_option maxRecDepth 100000 in
theorem C_chooseG_4 (l : Launch) (g : GG) (h0 b1 b6 b7 b8 b9 b10 b11 b12 b13 b14 b15 b16 b17 b21 b22 b23 b24 b25 b26 b28 b29 b30 b31 b32 b33 b34 b35 b36 b46 b47 b48 b49 b50 b51 b52 b53 b54 b55 b56 b57 b58 b59 b60 b61 b62 b63 : Nat) (i0 i2 i3 i4 i5 i18 i19 i20 i27 i37 i38 i39 i40 i41 i42 i43 i44 i45 : Int32) (n kw fr ca : Nat) (x : Int64) (la : List Int64) (hn4 : n ≤ 4) (hkw : kw < 16) (hca : ca < 16) (hla : la.length = 16) (hfr : fr + 4 = n) : MetV l g yX12_choose cX12_choose 8 none 4 0 0 [.ref h0, .int (nI n), .int (nI kw), .int (nI fr), .int (nI ca), .long x] [(h0, .inr (12, [.int i0, .ref b1, .int i2, .int i3, .int i4, .int i5, .ref b6, .ref b7, .ref b8, .ref b9, .ref b10, .ref b11, .ref b12, .ref b13, .ref b14, .ref b15, .ref b16, .ref b17, .int i18, .int i19, .int i20, .ref b21, .ref b22, .ref b23, .ref b24, .ref b25, .ref b26, .int i27, .ref b28, .ref b29, .ref b30, .ref b31, .ref b32, .ref b33, .ref b34, .ref b35, .ref b36, .int i37, .int i38, .int i39, .int i40, .int i41, .int i42, .int i43, .int i44, .int i45, .ref b46, .ref b47, .ref b48, .ref b49, .ref b50, .ref b51, .ref b52, .ref b53, .ref b54, .ref b55, .ref b56, .ref b57, .ref b58, .ref b59, .ref b60, .ref b61, .ref b62, .ref b63])), (b60, .inl (g.2.1 2, 16, .inr (.inl (lf (la)))))] (fun u => u = [(h0, .inr (12, [.int i0, .ref b1, .int i2, .int i3, .int i4, .int i5, .ref b6, .ref b7, .ref b8, .ref b9, .ref b10, .ref b11, .ref b12, .ref b13, .ref b14, .ref b15, .ref b16, .ref b17, .int i18, .int i19, .int i20, .ref b21, .ref b22, .ref b23, .ref b24, .ref b25, .ref b26, .int i27, .ref b28, .ref b29, .ref b30, .ref b31, .ref b32, .ref b33, .ref b34, .ref b35, .ref b36, .int i37, .int i38, .int i39, .int i40, .int i41, .int i42, .int i43, .int i44, .int i45, .ref b46, .ref b47, .ref b48, .ref b49, .ref b50, .ref b51, .ref b52, .ref b53, .ref b54, .ref b55, .ref b56, .ref b57, .ref b58, .ref b59, .ref b60, .ref b61, .ref b62, .ref b63])), (b60, .inl (g.2.1 2, 16, .inr (.inl (lf (chL n kw x 4 fr ca la)))))]) := by
  refine MetV.of (own := RX12) rfl (by decide) (Nat.le_of_ble_eq_true rfl) ?_
  intro p e s m below meth c A ls args Q hQ X hr hin hW hl
  have hx := X.1
  have hb := X.2.1
  have hl : lv_has ls 8 [(0, .ref h0), (1, .int (nI n)), (2, .int (nI kw)), (3, .int (nI fr)), (4, .int (nI ca)), (5, .long x)] := hl
  have hb2 : kw / 2 ^ fr % 2 < 2 := Nat.mod_lt _ (by decide)
  refine lv_iload_n (pc := 0) hx hb dX12_choose_0 rfl (lv_at hl 3 rfl) ?_
  refine lv_iload_n (pc := 1) hx hb dX12_choose_1 rfl (lv_at hl 1 rfl) ?_
  refine lv_icmp_ne (tgt := 20) (pc := 2) hx hb dX12_choose_2 rfl (fun c1 => ?_) (fun c1 => absurd c1 (fun q => absurd ((nI_eq (by omega) (by omega)).mp q) (by omega)))
  refine lv_iconst (v := 0) (pc := 20) hx hb dX12_choose_20 (by decide) ?_
  refine lv_istore (lv' := [(7, .int 0), (0, .ref h0), (1, .int (nI n)), (2, .int (nI kw)), (3, .int (nI fr)), (4, .int (nI ca)), (5, .long x)]) (pc := 21) hx hb dX12_choose_21 hl (by decide) rfl (fun ls hl => ?_)
  have loop1 : ∀ (fu : Nat) (o : Nat), (n < fu + o) → (o ≤ n) → ∀ (H : Heap) (locs : List Loc) (ls : Array Slot), WD g A s H locs [(h0, .inr (12, [.int i0, .ref b1, .int i2, .int i3, .int i4, .int i5, .ref b6, .ref b7, .ref b8, .ref b9, .ref b10, .ref b11, .ref b12, .ref b13, .ref b14, .ref b15, .ref b16, .ref b17, .int i18, .int i19, .int i20, .ref b21, .ref b22, .ref b23, .ref b24, .ref b25, .ref b26, .int i27, .ref b28, .ref b29, .ref b30, .ref b31, .ref b32, .ref b33, .ref b34, .ref b35, .ref b36, .int i37, .int i38, .int i39, .int i40, .int i41, .int i42, .int i43, .int i44, .int i45, .ref b46, .ref b47, .ref b48, .ref b49, .ref b50, .ref b51, .ref b52, .ref b53, .ref b54, .ref b55, .ref b56, .ref b57, .ref b58, .ref b59, .ref b60, .ref b61, .ref b62, .ref b63])), (b60, .inl (g.2.1 2, 16, .inr (.inl (lf (chO (fun o l => chL n kw x 3 (fr + 1) (if kw / 2 ^ fr % 2 = 1 then ca ||| 2 ^ o else ca) l) fr o la)))))] → lv_has ls 8 [(0, .ref h0), (1, .int (nI n)), (2, .int (nI kw)), (3, .int (nI fr)), (4, .int (nI ca)), (5, .long x), (7, .int (nI o))] → W p l e (RM 4 0 0) s m args below meth c H locs 0 0 Q (F0 m 23 ls []) := by
    intro fu
    induction fu with
    | zero =>
      intro o hm ho
      exact absurd hm (by omega)
    | succ fu ih1 =>
      intro o hm ho H locs ls hW hl
      refine lv_iload (pc := 23) hx hb dX12_choose_23 (lv_at hl 6 rfl) ?_
      refine lv_iload_n (pc := 25) hx hb dX12_choose_25 rfl (lv_at hl 1 rfl) ?_
      refine lv_icmp_ge (tgt := 73) (pc := 26) hx hb dX12_choose_26 rfl (fun c2 => ?_) (fun c2 => ?_)
      · have hon : o = n := by have := ge_t (k := n) (by omega) (by omega) c2; omega
        rw [hon] at hW
        exact e_v X hQ hr hW (u := [(h0, .inr (12, [.int i0, .ref b1, .int i2, .int i3, .int i4, .int i5, .ref b6, .ref b7, .ref b8, .ref b9, .ref b10, .ref b11, .ref b12, .ref b13, .ref b14, .ref b15, .ref b16, .ref b17, .int i18, .int i19, .int i20, .ref b21, .ref b22, .ref b23, .ref b24, .ref b25, .ref b26, .int i27, .ref b28, .ref b29, .ref b30, .ref b31, .ref b32, .ref b33, .ref b34, .ref b35, .ref b36, .int i37, .int i38, .int i39, .int i40, .int i41, .int i42, .int i43, .int i44, .int i45, .ref b46, .ref b47, .ref b48, .ref b49, .ref b50, .ref b51, .ref b52, .ref b53, .ref b54, .ref b55, .ref b56, .ref b57, .ref b58, .ref b59, .ref b60, .ref b61, .ref b62, .ref b63])), (b60, .inl (g.2.1 2, 16, .inr (.inl (lf (chL n kw x 4 fr ca la)))))]) [0, 1] rfl rfl (rfl) ⟨Nat.le_of_ble_eq_true rfl, Nat.le_of_ble_eq_true rfl⟩ dX12_choose_73
      · have hlo : o < n := ge_f (by omega) (by omega) c2
        refine lv_iload (pc := 29) hx hb dX12_choose_29 (lv_at hl 6 rfl) ?_
        refine lv_iload_n (pc := 31) hx hb dX12_choose_31 rfl (lv_at hl 3 rfl) ?_
        refine lv_icmp_eq (tgt := 67) (pc := 32) hx hb dX12_choose_32 rfl (fun c3 => ?_) (fun c3 => ?_)
        · have hof : o = fr := (nI_eq (by omega) (by omega)).mp c3
          have hst : chO (fun o l => chL n kw x 3 (fr + 1) (if kw / 2 ^ fr % 2 = 1 then ca ||| 2 ^ o else ca) l) fr (o + 1) la = chO (fun o l => chL n kw x 3 (fr + 1) (if kw / 2 ^ fr % 2 = 1 then ca ||| 2 ^ o else ca) l) fr o la := if_pos hof
          rw [← hst] at hW
          refine lv_iinc (v := nI (o + 1)) (lv' := [(7, .int (nI (o + 1))), (0, .ref h0), (1, .int (nI n)), (2, .int (nI kw)), (3, .int (nI fr)), (4, .int (nI ca)), (5, .long x)]) (pc := 67) hx hb dX12_choose_67 hl (k := 6) rfl (nI_1 o) (by decide) rfl (fun ls hl => ?_)
          refine lv_goto (tgt := 23) (pc := 70) hx hb dX12_choose_70 rfl ?_
          exact ih1 (o + 1) (by omega) (by omega) _ _ _ hW (lv_sub hl [1, 2, 3, 4, 5, 6, 0] rfl)
        · have hof : ¬ o = fr := fun q => c3 (congrArg nI q)
          refine lv_aload_n (pc := 35) hx hb dX12_choose_35 rfl (lv_at hl 0 rfl) ?_
          refine lv_iload_n (pc := 36) hx hb dX12_choose_36 rfl (lv_at hl 1 rfl) ?_
          refine lv_iload_n (pc := 37) hx hb dX12_choose_37 rfl (lv_at hl 2 rfl) ?_
          refine lv_iload_n (pc := 38) hx hb dX12_choose_38 rfl (lv_at hl 3 rfl) ?_
          refine lv_iconst (v := 1) (pc := 39) hx hb dX12_choose_39 (by decide) ?_
          refine lv_iadd (pc := 40) hx hb dX12_choose_40 ?_
          refine lv_topi (fun v4 ev4 => ?_)
          obtain rfl : v4 = nI (fr + 1) := ev4.trans (nI_1 fr)
          refine lv_iload_n (pc := 41) hx hb dX12_choose_41 rfl (lv_at hl 2 rfl) ?_
          refine lv_iload_n (pc := 42) hx hb dX12_choose_42 rfl (lv_at hl 3 rfl) ?_
          refine lv_ishr (pc := 43) hx hb dX12_choose_43 ?_
          refine lv_topi (fun v5 ev5 => ?_)
          obtain rfl : v5 = nI (kw / 2 ^ fr) := ev5.trans (shr_n kw hkw fr (by omega))
          refine lv_iconst (v := 1) (pc := 44) hx hb dX12_choose_44 (by decide) ?_
          refine lv_iand (pc := 45) hx hb dX12_choose_45 ?_
          refine lv_topi (fun v6 ev6 => ?_)
          obtain rfl : v6 = nI (kw / 2 ^ fr % 2) := ev6.trans (and_1 _ (Nat.lt_of_le_of_lt (Nat.div_le_self _ _) hkw))
          refine lv_iconst (v := 1) (pc := 46) hx hb dX12_choose_46 (by decide) ?_
          refine lv_icmp_ne (tgt := 60) (pc := 47) hx hb dX12_choose_47 rfl (fun c7 => ?_) (fun c7 => ?_)
          · have hbit : ¬ kw / 2 ^ fr % 2 = 1 := fun q => c7 (congrArg nI q)
            refine lv_iload (pc := 60) hx hb dX12_choose_60 (lv_at hl 4 rfl) ?_
            refine lv_lload (pc := 62) hx hb dX12_choose_62 (lv_at hl 5 rfl) ?_
            refine c_Vv (pc := 64) (As := [.int (nI n), .int (nI kw), .int (nI (fr + 1)), .int (nI ca), .long x]) (rest := []) (wr := []) X hW 0 ciX12 rfl (C_chooseG_3 l g h0 b1 b6 b7 b8 b9 b10 b11 b12 b13 b14 b15 b16 b17 b21 b22 b23 b24 b25 b26 b28 b29 b30 b31 b32 b33 b34 b35 b36 b46 b47 b48 b49 b50 b51 b52 b53 b54 b55 b56 b57 b58 b59 b60 b61 b62 b63 i0 i2 i3 i4 i5 i18 i19 i20 i27 i37 i38 i39 i40 i41 i42 i43 i44 i45 n kw (fr + 1) ca x (chO (fun o l => chL n kw x 3 (fr + 1) (if kw / 2 ^ fr % 2 = 1 then ca ||| 2 ^ o else ca) l) fr o la) hn4 hkw hca (by rw [chO_len fr (fun o l => chL_len n kw x 3 _ _ l), hla]) (by omega)) vX12_388 [0, 1] [] rfl rfl rfl rfl rfl rfl hl.1 rfl (Nat.le_of_ble_eq_true rfl) ⟨Nat.le_of_ble_eq_true rfl, Nat.le_of_ble_eq_true rfl⟩ ⟨Nat.le_of_ble_eq_true rfl, Nat.le_of_ble_eq_true rfl⟩ dX12_choose_64 (fun u9 H locs hq hW => ?_)
            obtain rfl := hq
            have hW : WD g A s _ _ [(h0, .inr (12, [.int i0, .ref b1, .int i2, .int i3, .int i4, .int i5, .ref b6, .ref b7, .ref b8, .ref b9, .ref b10, .ref b11, .ref b12, .ref b13, .ref b14, .ref b15, .ref b16, .ref b17, .int i18, .int i19, .int i20, .ref b21, .ref b22, .ref b23, .ref b24, .ref b25, .ref b26, .int i27, .ref b28, .ref b29, .ref b30, .ref b31, .ref b32, .ref b33, .ref b34, .ref b35, .ref b36, .int i37, .int i38, .int i39, .int i40, .int i41, .int i42, .int i43, .int i44, .int i45, .ref b46, .ref b47, .ref b48, .ref b49, .ref b50, .ref b51, .ref b52, .ref b53, .ref b54, .ref b55, .ref b56, .ref b57, .ref b58, .ref b59, .ref b60, .ref b61, .ref b62, .ref b63])), (b60, .inl (g.2.1 2, 16, .inr (.inl (lf (chL n kw x 3 (fr + 1) ca (chO (fun o l => chL n kw x 3 (fr + 1) (if kw / 2 ^ fr % 2 = 1 then ca ||| 2 ^ o else ca) l) fr o la))))))] := hW
            have hst : chO (fun o l => chL n kw x 3 (fr + 1) (if kw / 2 ^ fr % 2 = 1 then ca ||| 2 ^ o else ca) l) fr (o + 1) la = chL n kw x 3 (fr + 1) ca (chO (fun o l => chL n kw x 3 (fr + 1) (if kw / 2 ^ fr % 2 = 1 then ca ||| 2 ^ o else ca) l) fr o la) := by
              rw [chO, if_neg hof, if_neg hbit]
            rw [← hst] at hW
            refine lv_iinc (v := nI (o + 1)) (lv' := [(7, .int (nI (o + 1))), (0, .ref h0), (1, .int (nI n)), (2, .int (nI kw)), (3, .int (nI fr)), (4, .int (nI ca)), (5, .long x)]) (pc := 67) hx hb dX12_choose_67 hl (k := 6) rfl (nI_1 o) (by decide) rfl (fun ls hl => ?_)
            refine lv_goto (tgt := 23) (pc := 70) hx hb dX12_choose_70 rfl ?_
            exact ih1 (o + 1) (by omega) (by omega) _ _ _ hW (lv_sub hl [1, 2, 3, 4, 5, 6, 0] rfl)
          · have hbit : kw / 2 ^ fr % 2 = 1 := (nI_eq (by omega) (by decide)).mp c7
            refine lv_iload (pc := 50) hx hb dX12_choose_50 (lv_at hl 4 rfl) ?_
            refine lv_iconst (v := 1) (pc := 52) hx hb dX12_choose_52 (by decide) ?_
            refine lv_iload (pc := 53) hx hb dX12_choose_53 (lv_at hl 6 rfl) ?_
            refine lv_ishl (pc := 55) hx hb dX12_choose_55 ?_
            refine lv_topi (fun v8 ev8 => ?_)
            obtain rfl : v8 = nI (2 ^ o) := ev8.trans (shl_n o (by omega))
            refine lv_ior (pc := 56) hx hb dX12_choose_56 ?_
            refine lv_topi (fun v9 ev9 => ?_)
            obtain rfl : v9 = nI (ca ||| 2 ^ o) := ev9.trans (fa_or _ _)
            refine lv_goto (tgt := 62) (pc := 57) hx hb dX12_choose_57 rfl ?_
            refine lv_lload (pc := 62) hx hb dX12_choose_62 (lv_at hl 5 rfl) ?_
            refine c_Vv (pc := 64) (As := [.int (nI n), .int (nI kw), .int (nI (fr + 1)), .int (nI (ca ||| 2 ^ o)), .long x]) (rest := []) (wr := []) X hW 0 ciX12 rfl (C_chooseG_3 l g h0 b1 b6 b7 b8 b9 b10 b11 b12 b13 b14 b15 b16 b17 b21 b22 b23 b24 b25 b26 b28 b29 b30 b31 b32 b33 b34 b35 b36 b46 b47 b48 b49 b50 b51 b52 b53 b54 b55 b56 b57 b58 b59 b60 b61 b62 b63 i0 i2 i3 i4 i5 i18 i19 i20 i27 i37 i38 i39 i40 i41 i42 i43 i44 i45 n kw (fr + 1) (ca ||| 2 ^ o) x (chO (fun o l => chL n kw x 3 (fr + 1) (if kw / 2 ^ fr % 2 = 1 then ca ||| 2 ^ o else ca) l) fr o la) hn4 hkw (Nat.or_lt_two_pow (n := 4) hca (p2_4 o (by omega))) (by rw [chO_len fr (fun o l => chL_len n kw x 3 _ _ l), hla]) (by omega)) vX12_388 [0, 1] [] rfl rfl rfl rfl rfl rfl hl.1 rfl (Nat.le_of_ble_eq_true rfl) ⟨Nat.le_of_ble_eq_true rfl, Nat.le_of_ble_eq_true rfl⟩ ⟨Nat.le_of_ble_eq_true rfl, Nat.le_of_ble_eq_true rfl⟩ dX12_choose_64 (fun u9 H locs hq hW => ?_)
            obtain rfl := hq
            have hW : WD g A s _ _ [(h0, .inr (12, [.int i0, .ref b1, .int i2, .int i3, .int i4, .int i5, .ref b6, .ref b7, .ref b8, .ref b9, .ref b10, .ref b11, .ref b12, .ref b13, .ref b14, .ref b15, .ref b16, .ref b17, .int i18, .int i19, .int i20, .ref b21, .ref b22, .ref b23, .ref b24, .ref b25, .ref b26, .int i27, .ref b28, .ref b29, .ref b30, .ref b31, .ref b32, .ref b33, .ref b34, .ref b35, .ref b36, .int i37, .int i38, .int i39, .int i40, .int i41, .int i42, .int i43, .int i44, .int i45, .ref b46, .ref b47, .ref b48, .ref b49, .ref b50, .ref b51, .ref b52, .ref b53, .ref b54, .ref b55, .ref b56, .ref b57, .ref b58, .ref b59, .ref b60, .ref b61, .ref b62, .ref b63])), (b60, .inl (g.2.1 2, 16, .inr (.inl (lf (chL n kw x 3 (fr + 1) (ca ||| 2 ^ o) (chO (fun o l => chL n kw x 3 (fr + 1) (if kw / 2 ^ fr % 2 = 1 then ca ||| 2 ^ o else ca) l) fr o la))))))] := hW
            have hst : chO (fun o l => chL n kw x 3 (fr + 1) (if kw / 2 ^ fr % 2 = 1 then ca ||| 2 ^ o else ca) l) fr (o + 1) la = chL n kw x 3 (fr + 1) (ca ||| 2 ^ o) (chO (fun o l => chL n kw x 3 (fr + 1) (if kw / 2 ^ fr % 2 = 1 then ca ||| 2 ^ o else ca) l) fr o la) := by
              rw [chO, if_neg hof, if_pos hbit]
            rw [← hst] at hW
            refine lv_iinc (v := nI (o + 1)) (lv' := [(7, .int (nI (o + 1))), (0, .ref h0), (1, .int (nI n)), (2, .int (nI kw)), (3, .int (nI fr)), (4, .int (nI ca)), (5, .long x)]) (pc := 67) hx hb dX12_choose_67 hl (k := 6) rfl (nI_1 o) (by decide) rfl (fun ls hl => ?_)
            refine lv_goto (tgt := 23) (pc := 70) hx hb dX12_choose_70 rfl ?_
            exact ih1 (o + 1) (by omega) (by omega) _ _ _ hW (lv_sub hl [1, 2, 3, 4, 5, 6, 0] rfl)
  exact loop1 (n + 1) 0 (by omega) (by omega) _ _ _ hW (lv_sub hl [1, 2, 3, 4, 5, 6, 0] rfl)

set_option maxHeartbeats 4000000 in
set_option maxRecDepth 100000 in
theorem C_X12_waysG (l : Launch) (g : GG) (h0 b1 b6 b7 b8 b9 b10 b11 b12 b13 b14 b15 b16 b17 b21 b22 b23 b24 b25 b26 b28 b29 b30 b31 b32 b33 b34 b35 b36 b46 b47 b48 b49 b50 b51 b52 b53 b54 b55 b56 b57 b58 b59 b60 b61 b62 b63 : Nat) (i0 i2 i3 i4 i5 i18 i19 i20 i27 i37 i38 i39 i40 i41 i42 i43 i44 i45 : Int32) (ly ln0 : List Int64) (hly : ly.length = 16) (hln0 : ln0.length = 16) (p0 p1 p2 : Int32) : MetL l g yX12_ways cX12_ways 7 (some .long) 5 0 0 [.ref h0, .int p0, .int p1, .int p2] [(h0, .inr (12, [.int i0, .ref b1, .int i2, .int i3, .int i4, .int i5, .ref b6, .ref b7, .ref b8, .ref b9, .ref b10, .ref b11, .ref b12, .ref b13, .ref b14, .ref b15, .ref b16, .ref b17, .int i18, .int i19, .int i20, .ref b21, .ref b22, .ref b23, .ref b24, .ref b25, .ref b26, .int i27, .ref b28, .ref b29, .ref b30, .ref b31, .ref b32, .ref b33, .ref b34, .ref b35, .ref b36, .int i37, .int i38, .int i39, .int i40, .int i41, .int i42, .int i43, .int i44, .int i45, .ref b46, .ref b47, .ref b48, .ref b49, .ref b50, .ref b51, .ref b52, .ref b53, .ref b54, .ref b55, .ref b56, .ref b57, .ref b58, .ref b59, .ref b60, .ref b61, .ref b62, .ref b63])), (b59, .inl (g.2.1 2, 16, .inr (.inl (lf ly)))), (b60, .inl (g.2.1 2, 16, .inr (.inl (lf ln0))))] (fun r u => r = wv p0 p1 p2 ∧ ∃ la lb : List Int64, u = [(h0, .inr (12, [.int 0, .ref b1, .int i2, .int i3, .int i4, .int i5, .ref b6, .ref b7, .ref b8, .ref b9, .ref b10, .ref b11, .ref b12, .ref b13, .ref b14, .ref b15, .ref b16, .ref b17, .int i18, .int i19, .int i20, .ref b21, .ref b22, .ref b23, .ref b24, .ref b25, .ref b26, .int i27, .ref b28, .ref b29, .ref b30, .ref b31, .ref b32, .ref b33, .ref b34, .ref b35, .ref b36, .int i37, .int i38, .int i39, .int i40, .int i41, .int i42, .int i43, .int i44, .int i45, .ref b46, .ref b47, .ref b48, .ref b49, .ref b50, .ref b51, .ref b52, .ref b53, .ref b54, .ref b55, .ref b56, .ref b57, .ref b58, .ref b59, .ref b60, .ref b61, .ref b62, .ref b63])), (b59, .inl (g.2.1 2, 16, .inr (.inl (lf la)))), (b60, .inl (g.2.1 2, 16, .inr (.inl (lf lb))))]) := by
  refine MetL.of (own := RX12) rfl (by decide) (Nat.le_of_ble_eq_true rfl) ?_
  intro p e s m below meth c A ls args Q hQ X hr hin hW hl
  have hx := X.1
  have hb := X.2.1
  have hl : lv_has ls 7 [(0, .ref h0), (1, .int p0), (2, .int p1), (3, .int p2)] := hl
  refine lv_aload_n (pc := 0) hx hb dX12_ways_0 rfl (lv_at hl 0 rfl) ?_
  refine lv_iconst (v := 0) (pc := 1) hx hb dX12_ways_1 (by decide) ?_
  refine r_put (ws' := [(h0, .inr (12, [.int 0, .ref b1, .int i2, .int i3, .int i4, .int i5, .ref b6, .ref b7, .ref b8, .ref b9, .ref b10, .ref b11, .ref b12, .ref b13, .ref b14, .ref b15, .ref b16, .ref b17, .int i18, .int i19, .int i20, .ref b21, .ref b22, .ref b23, .ref b24, .ref b25, .ref b26, .int i27, .ref b28, .ref b29, .ref b30, .ref b31, .ref b32, .ref b33, .ref b34, .ref b35, .ref b36, .int i37, .int i38, .int i39, .int i40, .int i41, .int i42, .int i43, .int i44, .int i45, .ref b46, .ref b47, .ref b48, .ref b49, .ref b50, .ref b51, .ref b52, .ref b53, .ref b54, .ref b55, .ref b56, .ref b57, .ref b58, .ref b59, .ref b60, .ref b61, .ref b62, .ref b63])), (b59, .inl (g.2.1 2, 16, .inr (.inl (lf ly)))), (b60, .inl (g.2.1 2, 16, .inr (.inl (lf ln0))))]) X hW 0 ciX12 0 rfl (by decide) m_1231 rfl rfl rfl rfl (Nat.le_of_ble_eq_true rfl) rfl dX12_ways_2 (fun H locs hW => ?_)
  refine lv_iload_n (pc := 5) hx hb dX12_ways_5 rfl (lv_at hl 1 rfl) ?_
  refine lv_iconst (v := 2) (pc := 6) hx hb dX12_ways_6 (by decide) ?_
  refine lv_iconst (v := 4) (pc := 7) hx hb dX12_ways_7 (by decide) ?_
  refine c_Si (pc := 8) (As := [.int p0, .int 2, .int 4]) (rest := []) (wr := [(h0, .inr (12, [.int 0, .ref b1, .int i2, .int i3, .int i4, .int i5, .ref b6, .ref b7, .ref b8, .ref b9, .ref b10, .ref b11, .ref b12, .ref b13, .ref b14, .ref b15, .ref b16, .ref b17, .int i18, .int i19, .int i20, .ref b21, .ref b22, .ref b23, .ref b24, .ref b25, .ref b26, .int i27, .ref b28, .ref b29, .ref b30, .ref b31, .ref b32, .ref b33, .ref b34, .ref b35, .ref b36, .int i37, .int i38, .int i39, .int i40, .int i41, .int i42, .int i43, .int i44, .int i45, .ref b46, .ref b47, .ref b48, .ref b49, .ref b50, .ref b51, .ref b52, .ref b53, .ref b54, .ref b55, .ref b56, .ref b57, .ref b58, .ref b59, .ref b60, .ref b61, .ref b62, .ref b63])), (b59, .inl (g.2.1 2, 16, .inr (.inl (lf ly)))), (b60, .inl (g.2.1 2, 16, .inr (.inl (lf ln0))))]) X hW (C_X12_isIn l g p0 2 4) vX12_198 [] [0, 1, 2] rfl rfl rfl rfl rfl rfl hl.1 rfl (Nat.le_of_ble_eq_true rfl) ⟨Nat.le_of_ble_eq_true rfl, Nat.le_of_ble_eq_true rfl⟩ ⟨Nat.le_of_ble_eq_true rfl, Nat.le_of_ble_eq_true rfl⟩ dX12_ways_8 (fun r1 u9 H locs hq hW => ?_)
  obtain ⟨rfl, rfl⟩ := hq
  have hW : WD g A s _ _ [(h0, .inr (12, [.int 0, .ref b1, .int i2, .int i3, .int i4, .int i5, .ref b6, .ref b7, .ref b8, .ref b9, .ref b10, .ref b11, .ref b12, .ref b13, .ref b14, .ref b15, .ref b16, .ref b17, .int i18, .int i19, .int i20, .ref b21, .ref b22, .ref b23, .ref b24, .ref b25, .ref b26, .int i27, .ref b28, .ref b29, .ref b30, .ref b31, .ref b32, .ref b33, .ref b34, .ref b35, .ref b36, .int i37, .int i38, .int i39, .int i40, .int i41, .int i42, .int i43, .int i44, .int i45, .ref b46, .ref b47, .ref b48, .ref b49, .ref b50, .ref b51, .ref b52, .ref b53, .ref b54, .ref b55, .ref b56, .ref b57, .ref b58, .ref b59, .ref b60, .ref b61, .ref b62, .ref b63])), (b59, .inl (g.2.1 2, 16, .inr (.inl (lf ly)))), (b60, .inl (g.2.1 2, 16, .inr (.inl (lf ln0))))] := hW
  refine lv_if_eq (tgt := 33) (pc := 11) hx hb dX12_ways_11 rfl (fun c2 => ?_) (fun c2 => ?_)
  · refine lv_ldc2 (pc := 33) hx hb X.2.2.2.1 (X.2.2.2.2.1 _ m_1759) dX12_ways_33 ?_
    exact e_l X hQ hr hW (u := [(h0, .inr (12, [.int 0, .ref b1, .int i2, .int i3, .int i4, .int i5, .ref b6, .ref b7, .ref b8, .ref b9, .ref b10, .ref b11, .ref b12, .ref b13, .ref b14, .ref b15, .ref b16, .ref b17, .int i18, .int i19, .int i20, .ref b21, .ref b22, .ref b23, .ref b24, .ref b25, .ref b26, .int i27, .ref b28, .ref b29, .ref b30, .ref b31, .ref b32, .ref b33, .ref b34, .ref b35, .ref b36, .int i37, .int i38, .int i39, .int i40, .int i41, .int i42, .int i43, .int i44, .int i45, .ref b46, .ref b47, .ref b48, .ref b49, .ref b50, .ref b51, .ref b52, .ref b53, .ref b54, .ref b55, .ref b56, .ref b57, .ref b58, .ref b59, .ref b60, .ref b61, .ref b62, .ref b63])), (b59, .inl (g.2.1 2, 16, .inr (.inl (lf ly)))), (b60, .inl (g.2.1 2, 16, .inr (.inl (lf ln0))))]) [0, 1, 2] rfl rfl (⟨(wv_no (fun h9 => by obtain ⟨q1, q2, q3, q4, q5, q6⟩ := h9; rcases inv3_0 c2 with h8 | h8 <;> first | exact q1 h8 | exact q2 h8 | exact q3 h8 | exact q4 h8 | exact q5 h8 | exact q6 h8)).symm, _, _, rfl⟩) ⟨Nat.le_of_ble_eq_true rfl, Nat.le_of_ble_eq_true rfl⟩ dX12_ways_36
  · refine lv_iload_n (pc := 14) hx hb dX12_ways_14 rfl (lv_at hl 2 rfl) ?_
    refine lv_iconst (v := 1) (pc := 15) hx hb dX12_ways_15 (by decide) ?_
    refine lv_bipush (v := 8) (pc := 16) hx hb dX12_ways_16 (by decide) ?_
    refine c_Si (pc := 18) (As := [.int p1, .int 1, .int 8]) (rest := []) (wr := [(h0, .inr (12, [.int 0, .ref b1, .int i2, .int i3, .int i4, .int i5, .ref b6, .ref b7, .ref b8, .ref b9, .ref b10, .ref b11, .ref b12, .ref b13, .ref b14, .ref b15, .ref b16, .ref b17, .int i18, .int i19, .int i20, .ref b21, .ref b22, .ref b23, .ref b24, .ref b25, .ref b26, .int i27, .ref b28, .ref b29, .ref b30, .ref b31, .ref b32, .ref b33, .ref b34, .ref b35, .ref b36, .int i37, .int i38, .int i39, .int i40, .int i41, .int i42, .int i43, .int i44, .int i45, .ref b46, .ref b47, .ref b48, .ref b49, .ref b50, .ref b51, .ref b52, .ref b53, .ref b54, .ref b55, .ref b56, .ref b57, .ref b58, .ref b59, .ref b60, .ref b61, .ref b62, .ref b63])), (b59, .inl (g.2.1 2, 16, .inr (.inl (lf ly)))), (b60, .inl (g.2.1 2, 16, .inr (.inl (lf ln0))))]) X hW (C_X12_isIn l g p1 1 8) vX12_198 [] [0, 1, 2] rfl rfl rfl rfl rfl rfl hl.1 rfl (Nat.le_of_ble_eq_true rfl) ⟨Nat.le_of_ble_eq_true rfl, Nat.le_of_ble_eq_true rfl⟩ ⟨Nat.le_of_ble_eq_true rfl, Nat.le_of_ble_eq_true rfl⟩ dX12_ways_18 (fun r3 u9 H locs hq hW => ?_)
    obtain ⟨rfl, rfl⟩ := hq
    have hW : WD g A s _ _ [(h0, .inr (12, [.int 0, .ref b1, .int i2, .int i3, .int i4, .int i5, .ref b6, .ref b7, .ref b8, .ref b9, .ref b10, .ref b11, .ref b12, .ref b13, .ref b14, .ref b15, .ref b16, .ref b17, .int i18, .int i19, .int i20, .ref b21, .ref b22, .ref b23, .ref b24, .ref b25, .ref b26, .int i27, .ref b28, .ref b29, .ref b30, .ref b31, .ref b32, .ref b33, .ref b34, .ref b35, .ref b36, .int i37, .int i38, .int i39, .int i40, .int i41, .int i42, .int i43, .int i44, .int i45, .ref b46, .ref b47, .ref b48, .ref b49, .ref b50, .ref b51, .ref b52, .ref b53, .ref b54, .ref b55, .ref b56, .ref b57, .ref b58, .ref b59, .ref b60, .ref b61, .ref b62, .ref b63])), (b59, .inl (g.2.1 2, 16, .inr (.inl (lf ly)))), (b60, .inl (g.2.1 2, 16, .inr (.inl (lf ln0))))] := hW
    refine lv_if_eq (tgt := 33) (pc := 21) hx hb dX12_ways_21 rfl (fun c4 => ?_) (fun c4 => ?_)
    · refine lv_ldc2 (pc := 33) hx hb X.2.2.2.1 (X.2.2.2.2.1 _ m_1759) dX12_ways_33 ?_
      exact e_l X hQ hr hW (u := [(h0, .inr (12, [.int 0, .ref b1, .int i2, .int i3, .int i4, .int i5, .ref b6, .ref b7, .ref b8, .ref b9, .ref b10, .ref b11, .ref b12, .ref b13, .ref b14, .ref b15, .ref b16, .ref b17, .int i18, .int i19, .int i20, .ref b21, .ref b22, .ref b23, .ref b24, .ref b25, .ref b26, .int i27, .ref b28, .ref b29, .ref b30, .ref b31, .ref b32, .ref b33, .ref b34, .ref b35, .ref b36, .int i37, .int i38, .int i39, .int i40, .int i41, .int i42, .int i43, .int i44, .int i45, .ref b46, .ref b47, .ref b48, .ref b49, .ref b50, .ref b51, .ref b52, .ref b53, .ref b54, .ref b55, .ref b56, .ref b57, .ref b58, .ref b59, .ref b60, .ref b61, .ref b62, .ref b63])), (b59, .inl (g.2.1 2, 16, .inr (.inl (lf ly)))), (b60, .inl (g.2.1 2, 16, .inr (.inl (lf ln0))))]) [0, 1, 2] rfl rfl (⟨(wv_no (fun h9 => by obtain ⟨q1, q2, q3, q4, q5, q6⟩ := h9; rcases inv3_0 c4 with h8 | h8 <;> first | exact q1 h8 | exact q2 h8 | exact q3 h8 | exact q4 h8 | exact q5 h8 | exact q6 h8)).symm, _, _, rfl⟩) ⟨Nat.le_of_ble_eq_true rfl, Nat.le_of_ble_eq_true rfl⟩ dX12_ways_36
    · refine lv_iload_n (pc := 24) hx hb dX12_ways_24 rfl (lv_at hl 3 rfl) ?_
      refine lv_iconst (v := 1) (pc := 25) hx hb dX12_ways_25 (by decide) ?_
      refine lv_iload_n (pc := 26) hx hb dX12_ways_26 rfl (lv_at hl 1 rfl) ?_
      refine c_Si (pc := 27) (As := [.int p2, .int 1, .int p0]) (rest := []) (wr := [(h0, .inr (12, [.int 0, .ref b1, .int i2, .int i3, .int i4, .int i5, .ref b6, .ref b7, .ref b8, .ref b9, .ref b10, .ref b11, .ref b12, .ref b13, .ref b14, .ref b15, .ref b16, .ref b17, .int i18, .int i19, .int i20, .ref b21, .ref b22, .ref b23, .ref b24, .ref b25, .ref b26, .int i27, .ref b28, .ref b29, .ref b30, .ref b31, .ref b32, .ref b33, .ref b34, .ref b35, .ref b36, .int i37, .int i38, .int i39, .int i40, .int i41, .int i42, .int i43, .int i44, .int i45, .ref b46, .ref b47, .ref b48, .ref b49, .ref b50, .ref b51, .ref b52, .ref b53, .ref b54, .ref b55, .ref b56, .ref b57, .ref b58, .ref b59, .ref b60, .ref b61, .ref b62, .ref b63])), (b59, .inl (g.2.1 2, 16, .inr (.inl (lf ly)))), (b60, .inl (g.2.1 2, 16, .inr (.inl (lf ln0))))]) X hW (C_X12_isIn l g p2 1 p0) vX12_198 [] [0, 1, 2] rfl rfl rfl rfl rfl rfl hl.1 rfl (Nat.le_of_ble_eq_true rfl) ⟨Nat.le_of_ble_eq_true rfl, Nat.le_of_ble_eq_true rfl⟩ ⟨Nat.le_of_ble_eq_true rfl, Nat.le_of_ble_eq_true rfl⟩ dX12_ways_27 (fun r5 u9 H locs hq hW => ?_)
      obtain ⟨rfl, rfl⟩ := hq
      have hW : WD g A s _ _ [(h0, .inr (12, [.int 0, .ref b1, .int i2, .int i3, .int i4, .int i5, .ref b6, .ref b7, .ref b8, .ref b9, .ref b10, .ref b11, .ref b12, .ref b13, .ref b14, .ref b15, .ref b16, .ref b17, .int i18, .int i19, .int i20, .ref b21, .ref b22, .ref b23, .ref b24, .ref b25, .ref b26, .int i27, .ref b28, .ref b29, .ref b30, .ref b31, .ref b32, .ref b33, .ref b34, .ref b35, .ref b36, .int i37, .int i38, .int i39, .int i40, .int i41, .int i42, .int i43, .int i44, .int i45, .ref b46, .ref b47, .ref b48, .ref b49, .ref b50, .ref b51, .ref b52, .ref b53, .ref b54, .ref b55, .ref b56, .ref b57, .ref b58, .ref b59, .ref b60, .ref b61, .ref b62, .ref b63])), (b59, .inl (g.2.1 2, 16, .inr (.inl (lf ly)))), (b60, .inl (g.2.1 2, 16, .inr (.inl (lf ln0))))] := hW
      refine lv_if_ne (tgt := 37) (pc := 30) hx hb dX12_ways_30 rfl (fun c6 => ?_) (fun c6 => ?_)
      · have hok : wOk p0 p1 p2 := by
          have q1 := inv3_1 c2; have q2 := inv3_1 c4; have q3 := inv3_1 c6
          exact ⟨q1.1, q1.2, q2.1, q2.2, q3.1, q3.2⟩
        obtain ⟨n, h, k, hn, hn4, hh1, hh, hk1, hk, rfl, rfl, rfl, hwv⟩ := w_ok hok
        rcases (show n = 2 ∨ n = 3 ∨ n = 4 by omega) with rfl | rfl | rfl
        · refine lv_iconst (v := 0) (pc := 37) hx hb dX12_ways_37 (by decide) ?_
          refine lv_istore (lv' := [(4, .int 0), (0, .ref h0), (1, .int (nI 2)), (2, .int (nI h)), (3, .int (nI k))]) (pc := 38) hx hb dX12_ways_38 hl (by decide) rfl (fun ls hl => ?_)
          have loop1 : ∀ (fu : Nat) (i : Nat), (16 < fu + i) → (i ≤ 16) → ∀ (H : Heap) (locs : List Loc) (ls : Array Slot), WD g A s H locs [(h0, .inr (12, [.int 0, .ref b1, .int i2, .int i3, .int i4, .int i5, .ref b6, .ref b7, .ref b8, .ref b9, .ref b10, .ref b11, .ref b12, .ref b13, .ref b14, .ref b15, .ref b16, .ref b17, .int i18, .int i19, .int i20, .ref b21, .ref b22, .ref b23, .ref b24, .ref b25, .ref b26, .int i27, .ref b28, .ref b29, .ref b30, .ref b31, .ref b32, .ref b33, .ref b34, .ref b35, .ref b36, .int i37, .int i38, .int i39, .int i40, .int i41, .int i42, .int i43, .int i44, .int i45, .ref b46, .ref b47, .ref b48, .ref b49, .ref b50, .ref b51, .ref b52, .ref b53, .ref b54, .ref b55, .ref b56, .ref b57, .ref b58, .ref b59, .ref b60, .ref b61, .ref b62, .ref b63])), (b59, .inl (g.2.1 2, 16, .inr (.inl (lf (cpL ly (m0L 16) i))))), (b60, .inl (g.2.1 2, 16, .inr (.inl (lf ln0))))] → lv_has ls 7 [(0, .ref h0), (1, .int (nI 2)), (2, .int (nI h)), (3, .int (nI k)), (4, .int (nI i))] → W p l e (RM 5 0 0) s m args below meth c H locs 0 0 Q (F0 m 40 ls []) := by
            intro fu
            induction fu with
            | zero =>
              intro i hm hi
              exact absurd hm (by omega)
            | succ fu ih1 =>
              intro i hm hi H locs ls hW hl
              refine lv_iload (pc := 40) hx hb dX12_ways_40 (lv_at hl 4 rfl) ?_
              refine lv_bipush (v := 16) (pc := 42) hx hb dX12_ways_42 (by decide) ?_
              refine lv_icmp_ge (tgt := 71) (pc := 44) hx hb dX12_ways_44 rfl (fun c7 => ?_) (fun c7 => ?_)
              · have h16 : i = 16 := by have := ge_t (k := 16) (by omega) (by omega) c7; omega
                rw [h16, cpL_all hly (m0L_len 16)] at hW
                refine lv_iconst (v := 0) (pc := 71) hx hb dX12_ways_71 (by decide) ?_
                refine lv_istore (lv' := [(4, .int 0), (0, .ref h0), (1, .int (nI 2)), (2, .int (nI h)), (3, .int (nI k))]) (pc := 72) hx hb dX12_ways_72 hl (by decide) rfl (fun ls hl => ?_)
                have loop2 : ∀ (fv : Nat) (t : Nat) (ln : List Int64), (h < fv + t) → (t ≤ h) → (ln.length = 16) → ∀ (H : Heap) (locs : List Loc) (ls : Array Slot), WD g A s H locs [(h0, .inr (12, [.int 0, .ref b1, .int i2, .int i3, .int i4, .int i5, .ref b6, .ref b7, .ref b8, .ref b9, .ref b10, .ref b11, .ref b12, .ref b13, .ref b14, .ref b15, .ref b16, .ref b17, .int i18, .int i19, .int i20, .ref b21, .ref b22, .ref b23, .ref b24, .ref b25, .ref b26, .int i27, .ref b28, .ref b29, .ref b30, .ref b31, .ref b32, .ref b33, .ref b34, .ref b35, .ref b36, .int i37, .int i38, .int i39, .int i40, .int i41, .int i42, .int i43, .int i44, .int i45, .ref b46, .ref b47, .ref b48, .ref b49, .ref b50, .ref b51, .ref b52, .ref b53, .ref b54, .ref b55, .ref b56, .ref b57, .ref b58, .ref b59, .ref b60, .ref b61, .ref b62, .ref b63])), (b59, .inl (g.2.1 2, 16, .inr (.inl (lf (stM 2 t))))), (b60, .inl (g.2.1 2, 16, .inr (.inl (lf (ln)))))] → lv_has ls 7 [(0, .ref h0), (1, .int (nI 2)), (2, .int (nI h)), (3, .int (nI k)), (4, .int (nI t))] → W p l e (RM 5 0 0) s m args below meth c H locs 0 0 Q (F0 m 74 ls []) := by
                  intro fv
                  induction fv with
                  | zero =>
                    intro t ln hm2 ht hln
                    exact absurd hm2 (by omega)
                  | succ fv ih2 =>
                    intro t ln hm2 ht hln H locs ls hW hl
                    refine lv_iload (pc := 74) hx hb dX12_ways_74 (lv_at hl 4 rfl) ?_
                    refine lv_iload_n (pc := 76) hx hb dX12_ways_76 rfl (lv_at hl 2 rfl) ?_
                    refine lv_icmp_ge (tgt := 185) (pc := 77) hx hb dX12_ways_77 rfl (fun c8 => ?_) (fun c8 => ?_)
                    · have hth : t = h := by have := ge_t (k := h) (by omega) (by omega) c8; omega
                      rw [hth] at hW
                      refine lv_lconst (v := 0) (pc := 185) hx hb dX12_ways_185 (by decide) ?_
                      refine lv_lstore (lv' := [(4, .long 0), (0, .ref h0), (1, .int (nI 2)), (2, .int (nI h)), (3, .int (nI k))]) (pc := 186) hx hb dX12_ways_186 hl (by decide) rfl (fun ls hl => ?_)
                      refine lv_iconst (v := 0) (pc := 188) hx hb dX12_ways_188 (by decide) ?_
                      refine lv_istore (lv' := [(6, .int 0), (4, .long 0), (0, .ref h0), (1, .int (nI 2)), (2, .int (nI h)), (3, .int (nI k))]) (pc := 189) hx hb dX12_ways_189 hl (by decide) rfl (fun ls hl => ?_)
                      have loop6 : ∀ (fx : Nat) (i : Nat), (16 < fx + i) → (i ≤ 16) → ∀ (H : Heap) (locs : List Loc) (ls : Array Slot), WD g A s H locs [(h0, .inr (12, [.int 0, .ref b1, .int i2, .int i3, .int i4, .int i5, .ref b6, .ref b7, .ref b8, .ref b9, .ref b10, .ref b11, .ref b12, .ref b13, .ref b14, .ref b15, .ref b16, .ref b17, .int i18, .int i19, .int i20, .ref b21, .ref b22, .ref b23, .ref b24, .ref b25, .ref b26, .int i27, .ref b28, .ref b29, .ref b30, .ref b31, .ref b32, .ref b33, .ref b34, .ref b35, .ref b36, .int i37, .int i38, .int i39, .int i40, .int i41, .int i42, .int i43, .int i44, .int i45, .ref b46, .ref b47, .ref b48, .ref b49, .ref b50, .ref b51, .ref b52, .ref b53, .ref b54, .ref b55, .ref b56, .ref b57, .ref b58, .ref b59, .ref b60, .ref b61, .ref b62, .ref b63])), (b59, .inl (g.2.1 2, 16, .inr (.inl (lf (stM 2 h))))), (b60, .inl (g.2.1 2, 16, .inr (.inl (lf (ln)))))] → lv_has ls 7 [(0, .ref h0), (1, .int (nI 2)), (2, .int (nI h)), (3, .int (nI k)), (4, .long (smM (stM 2 h) k i)), (6, .int (nI i))] → W p l e (RM 5 0 0) s m args below meth c H locs 0 0 Q (F0 m 191 ls []) := by
                        intro fx
                        induction fx with
                        | zero =>
                          intro i hm6 hi
                          exact absurd hm6 (by omega)
                        | succ fx ih6 =>
                          intro i hm6 hi H locs ls hW hl
                          refine lv_iload (pc := 191) hx hb dX12_ways_191 (lv_at hl 5 rfl) ?_
                          refine lv_bipush (v := 16) (pc := 193) hx hb dX12_ways_193 (by decide) ?_
                          refine lv_icmp_ge (tgt := 229) (pc := 195) hx hb dX12_ways_195 rfl (fun c9 => ?_) (fun c9 => ?_)
                          · have h16 : i = 16 := by have := ge_t (k := 16) (by omega) (by omega) c9; omega
                            refine lv_lload (pc := 229) hx hb dX12_ways_229 (lv_at hl 4 rfl) ?_
                            exact e_l X hQ hr hW (u := [(h0, .inr (12, [.int 0, .ref b1, .int i2, .int i3, .int i4, .int i5, .ref b6, .ref b7, .ref b8, .ref b9, .ref b10, .ref b11, .ref b12, .ref b13, .ref b14, .ref b15, .ref b16, .ref b17, .int i18, .int i19, .int i20, .ref b21, .ref b22, .ref b23, .ref b24, .ref b25, .ref b26, .int i27, .ref b28, .ref b29, .ref b30, .ref b31, .ref b32, .ref b33, .ref b34, .ref b35, .ref b36, .int i37, .int i38, .int i39, .int i40, .int i41, .int i42, .int i43, .int i44, .int i45, .ref b46, .ref b47, .ref b48, .ref b49, .ref b50, .ref b51, .ref b52, .ref b53, .ref b54, .ref b55, .ref b56, .ref b57, .ref b58, .ref b59, .ref b60, .ref b61, .ref b62, .ref b63])), (b59, .inl (g.2.1 2, 16, .inr (.inl (lf (stM 2 h))))), (b60, .inl (g.2.1 2, 16, .inr (.inl (lf (ln)))))]) [0, 1, 2] rfl rfl (⟨by rw [h16, hwv]; exact fin_w (by decide) (by decide) hh1 hh hk1 hk, _, _, rfl⟩) ⟨Nat.le_of_ble_eq_true rfl, Nat.le_of_ble_eq_true rfl⟩ dX12_ways_231
                          · have hli : i < 16 := ge_f (k := 16) (by omega) (by omega) c9
                            have hp4 := pop4_le i hli
                            refine lv_lload (pc := 198) hx hb dX12_ways_198 (lv_at hl 4 rfl) ?_
                            refine lv_iload (pc := 200) hx hb dX12_ways_200 (lv_at hl 5 rfl) ?_
                            refine c_Si (pc := 202) (As := [.int (nI i)]) (rest := [.long (smM (stM 2 h) k i)]) (wr := [(h0, .inr (12, [.int 0, .ref b1, .int i2, .int i3, .int i4, .int i5, .ref b6, .ref b7, .ref b8, .ref b9, .ref b10, .ref b11, .ref b12, .ref b13, .ref b14, .ref b15, .ref b16, .ref b17, .int i18, .int i19, .int i20, .ref b21, .ref b22, .ref b23, .ref b24, .ref b25, .ref b26, .int i27, .ref b28, .ref b29, .ref b30, .ref b31, .ref b32, .ref b33, .ref b34, .ref b35, .ref b36, .int i37, .int i38, .int i39, .int i40, .int i41, .int i42, .int i43, .int i44, .int i45, .ref b46, .ref b47, .ref b48, .ref b49, .ref b50, .ref b51, .ref b52, .ref b53, .ref b54, .ref b55, .ref b56, .ref b57, .ref b58, .ref b59, .ref b60, .ref b61, .ref b62, .ref b63])), (b59, .inl (g.2.1 2, 16, .inr (.inl (lf (stM 2 h))))), (b60, .inl (g.2.1 2, 16, .inr (.inl (lf (ln)))))]) X hW (C_J6_bitCount_0f7a4 l g (nI i)) vX12_334 [] [0, 1, 2] rfl rfl rfl rfl rfl rfl hl.1 rfl (Nat.le_of_ble_eq_true rfl) ⟨Nat.le_of_ble_eq_true rfl, Nat.le_of_ble_eq_true rfl⟩ ⟨Nat.le_of_ble_eq_true rfl, Nat.le_of_ble_eq_true rfl⟩ dX12_ways_202 (fun r10 u9 H locs hq hW => ?_)
                            obtain ⟨hr9, rfl⟩ := hq
                            obtain rfl : r10 = nI (pop4 i) := hr9.trans (bc_n _ (by omega))
                            have hW : WD g A s _ _ [(h0, .inr (12, [.int 0, .ref b1, .int i2, .int i3, .int i4, .int i5, .ref b6, .ref b7, .ref b8, .ref b9, .ref b10, .ref b11, .ref b12, .ref b13, .ref b14, .ref b15, .ref b16, .ref b17, .int i18, .int i19, .int i20, .ref b21, .ref b22, .ref b23, .ref b24, .ref b25, .ref b26, .int i27, .ref b28, .ref b29, .ref b30, .ref b31, .ref b32, .ref b33, .ref b34, .ref b35, .ref b36, .int i37, .int i38, .int i39, .int i40, .int i41, .int i42, .int i43, .int i44, .int i45, .ref b46, .ref b47, .ref b48, .ref b49, .ref b50, .ref b51, .ref b52, .ref b53, .ref b54, .ref b55, .ref b56, .ref b57, .ref b58, .ref b59, .ref b60, .ref b61, .ref b62, .ref b63])), (b59, .inl (g.2.1 2, 16, .inr (.inl (lf (stM 2 h))))), (b60, .inl (g.2.1 2, 16, .inr (.inl (lf (ln)))))] := hW
                            refine lv_iload_n (pc := 205) hx hb dX12_ways_205 rfl (lv_at hl 3 rfl) ?_
                            refine lv_icmp_ne (tgt := 219) (pc := 206) hx hb dX12_ways_206 rfl (fun c11 => ?_) (fun c11 => ?_)
                            · have hpk : ¬ pop4 i = k := fun q => c11 (congrArg nI q)
                              refine lv_lconst (v := 0) (pc := 219) hx hb dX12_ways_219 (by decide) ?_
                              refine lv_ladd (pc := 220) hx hb dX12_ways_220 ?_
                              refine lv_topl (fun v12 ev12 => ?_)
                              obtain rfl : v12 = smM (stM 2 h) k (i + 1) := ev12.trans (by rw [smM, if_neg hpk])
                              refine lv_lstore (lv' := [(4, .long (smM (stM 2 h) k (i + 1))), (0, .ref h0), (1, .int (nI 2)), (2, .int (nI h)), (3, .int (nI k)), (6, .int (nI i))]) (pc := 221) hx hb dX12_ways_221 hl (by decide) rfl (fun ls hl => ?_)
                              refine lv_iinc (v := nI (i + 1)) (lv' := [(6, .int (nI (i + 1))), (4, .long (smM (stM 2 h) k (i + 1))), (0, .ref h0), (1, .int (nI 2)), (2, .int (nI h)), (3, .int (nI k))]) (pc := 223) hx hb dX12_ways_223 hl (k := 5) rfl (nI_1 i) (by decide) rfl (fun ls hl => ?_)
                              refine lv_goto (tgt := 191) (pc := 226) hx hb dX12_ways_226 rfl ?_
                              exact ih6 (i + 1) (by omega) (by omega) _ _ _ hW (lv_sub hl [2, 3, 4, 5, 1, 0] rfl)
                            · have hpk : pop4 i = k := (nI_eq (by omega) (by omega)).mp c11
                              refine lv_aload_n (pc := 209) hx hb dX12_ways_209 rfl (lv_at hl 0 rfl) ?_
                              refine r_get X hW 0 ciX12 59 rfl (by decide) m_1286 rfl rfl dX12_ways_210 ?_
                              refine lv_iload (pc := 213) hx hb dX12_ways_213 (lv_at hl 5 rfl) ?_
                              refine r_lald X hW 1 rfl (vp_in_nI (by omega) (by decide)) dX12_ways_215 ?_
                              refine lv_topl (fun v13 ev13 => ?_)
                              obtain rfl : v13 = (stM 2 h).getD i 0 := ev13.trans (by rw [nI_clamp (by omega)])
                              refine lv_goto (tgt := 220) (pc := 216) hx hb dX12_ways_216 rfl ?_
                              refine lv_ladd (pc := 220) hx hb dX12_ways_220 ?_
                              refine lv_topl (fun v14 ev14 => ?_)
                              obtain rfl : v14 = smM (stM 2 h) k (i + 1) := ev14.trans (by rw [smM, if_pos hpk])
                              refine lv_lstore (lv' := [(4, .long (smM (stM 2 h) k (i + 1))), (0, .ref h0), (1, .int (nI 2)), (2, .int (nI h)), (3, .int (nI k)), (6, .int (nI i))]) (pc := 221) hx hb dX12_ways_221 hl (by decide) rfl (fun ls hl => ?_)
                              refine lv_iinc (v := nI (i + 1)) (lv' := [(6, .int (nI (i + 1))), (4, .long (smM (stM 2 h) k (i + 1))), (0, .ref h0), (1, .int (nI 2)), (2, .int (nI h)), (3, .int (nI k))]) (pc := 223) hx hb dX12_ways_223 hl (k := 5) rfl (nI_1 i) (by decide) rfl (fun ls hl => ?_)
                              refine lv_goto (tgt := 191) (pc := 226) hx hb dX12_ways_226 rfl ?_
                              exact ih6 (i + 1) (by omega) (by omega) _ _ _ hW (lv_sub hl [2, 3, 4, 5, 1, 0] rfl)
                      exact loop6 17 0 (by omega) (by omega) _ _ _ hW (lv_sub hl [2, 3, 4, 5, 1, 0] rfl)
                    · have hlt : t < h := ge_f (k := h) (by omega) (by omega) c8
                      refine lv_iconst (v := 0) (pc := 80) hx hb dX12_ways_80 (by decide) ?_
                      refine lv_istore (lv' := [(5, .int 0), (0, .ref h0), (1, .int (nI 2)), (2, .int (nI h)), (3, .int (nI k)), (4, .int (nI t))]) (pc := 81) hx hb dX12_ways_81 hl (by decide) rfl (fun ls hl => ?_)
                      have loop3 : ∀ (fx : Nat) (i : Nat), (16 < fx + i) → (i ≤ 16) → ∀ (H : Heap) (locs : List Loc) (ls : Array Slot), WD g A s H locs [(h0, .inr (12, [.int 0, .ref b1, .int i2, .int i3, .int i4, .int i5, .ref b6, .ref b7, .ref b8, .ref b9, .ref b10, .ref b11, .ref b12, .ref b13, .ref b14, .ref b15, .ref b16, .ref b17, .int i18, .int i19, .int i20, .ref b21, .ref b22, .ref b23, .ref b24, .ref b25, .ref b26, .int i27, .ref b28, .ref b29, .ref b30, .ref b31, .ref b32, .ref b33, .ref b34, .ref b35, .ref b36, .int i37, .int i38, .int i39, .int i40, .int i41, .int i42, .int i43, .int i44, .int i45, .ref b46, .ref b47, .ref b48, .ref b49, .ref b50, .ref b51, .ref b52, .ref b53, .ref b54, .ref b55, .ref b56, .ref b57, .ref b58, .ref b59, .ref b60, .ref b61, .ref b62, .ref b63])), (b59, .inl (g.2.1 2, 16, .inr (.inl (lf (stM 2 t))))), (b60, .inl (g.2.1 2, 16, .inr (.inl (lf (cpL ln z16 i)))))] → lv_has ls 7 [(0, .ref h0), (1, .int (nI 2)), (2, .int (nI h)), (3, .int (nI k)), (4, .int (nI t)), (5, .int (nI i))] → W p l e (RM 5 0 0) s m args below meth c H locs 0 0 Q (F0 m 83 ls []) := by
                        intro fx
                        induction fx with
                        | zero =>
                          intro i hm3 hi
                          exact absurd hm3 (by omega)
                        | succ fx ih3 =>
                          intro i hm3 hi H locs ls hW hl
                          refine lv_iload (pc := 83) hx hb dX12_ways_83 (lv_at hl 5 rfl) ?_
                          refine lv_bipush (v := 16) (pc := 85) hx hb dX12_ways_85 (by decide) ?_
                          refine lv_icmp_ge (tgt := 104) (pc := 87) hx hb dX12_ways_87 rfl (fun c15 => ?_) (fun c15 => ?_)
                          · have h16 : i = 16 := by have := ge_t (k := 16) (by omega) (by omega) c15; omega
                            rw [h16, cpL_all hln rfl] at hW
                            refine lv_iconst (v := 0) (pc := 104) hx hb dX12_ways_104 (by decide) ?_
                            refine lv_istore (lv' := [(5, .int 0), (0, .ref h0), (1, .int (nI 2)), (2, .int (nI h)), (3, .int (nI k)), (4, .int (nI t))]) (pc := 105) hx hb dX12_ways_105 hl (by decide) rfl (fun ls hl => ?_)
                            have loop4 : ∀ (fx : Nat) (q : Nat), (4 < fx + q) → (q ≤ 4) → ∀ (H : Heap) (locs : List Loc) (ls : Array Slot), WD g A s H locs [(h0, .inr (12, [.int 0, .ref b1, .int i2, .int i3, .int i4, .int i5, .ref b6, .ref b7, .ref b8, .ref b9, .ref b10, .ref b11, .ref b12, .ref b13, .ref b14, .ref b15, .ref b16, .ref b17, .int i18, .int i19, .int i20, .ref b21, .ref b22, .ref b23, .ref b24, .ref b25, .ref b26, .int i27, .ref b28, .ref b29, .ref b30, .ref b31, .ref b32, .ref b33, .ref b34, .ref b35, .ref b36, .int i37, .int i38, .int i39, .int i40, .int i41, .int i42, .int i43, .int i44, .int i45, .ref b46, .ref b47, .ref b48, .ref b49, .ref b50, .ref b51, .ref b52, .ref b53, .ref b54, .ref b55, .ref b56, .ref b57, .ref b58, .ref b59, .ref b60, .ref b61, .ref b62, .ref b63])), (b59, .inl (g.2.1 2, 16, .inr (.inl (lf (stM 2 t))))), (b60, .inl (g.2.1 2, 16, .inr (.inl (lf (seL 2 (stM 2 t) q)))))] → lv_has ls 7 [(0, .ref h0), (1, .int (nI 2)), (2, .int (nI h)), (3, .int (nI k)), (4, .int (nI t)), (5, .int (nI q))] → W p l e (RM 5 0 0) s m args below meth c H locs 0 0 Q (F0 m 107 ls []) := by
                              intro fx
                              induction fx with
                              | zero =>
                                intro q hm4 hq
                                exact absurd hm4 (by omega)
                              | succ fx ih4 =>
                                intro q hm4 hq H locs ls hW hl
                                refine lv_iload (pc := 107) hx hb dX12_ways_107 (lv_at hl 5 rfl) ?_
                                refine lv_iconst (v := 1) (pc := 109) hx hb dX12_ways_109 (by decide) ?_
                                refine lv_iload_n (pc := 110) hx hb dX12_ways_110 rfl (lv_at hl 1 rfl) ?_
                                refine lv_ishl (pc := 111) hx hb dX12_ways_111 ?_
                                refine lv_topi (fun v16 ev16 => ?_)
                                obtain rfl : v16 = nI 4 := ev16.trans (by decide +kernel)
                                refine lv_icmp_ge (tgt := 149) (pc := 112) hx hb dX12_ways_112 rfl (fun c17 => ?_) (fun c17 => ?_)
                                · have hqe : q = 4 := by have := ge_t (k := 4) (by omega) (by omega) c17; omega
                                  rw [hqe] at hW
                                  have hW : WD g A s _ _ [(h0, .inr (12, [.int 0, .ref b1, .int i2, .int i3, .int i4, .int i5, .ref b6, .ref b7, .ref b8, .ref b9, .ref b10, .ref b11, .ref b12, .ref b13, .ref b14, .ref b15, .ref b16, .ref b17, .int i18, .int i19, .int i20, .ref b21, .ref b22, .ref b23, .ref b24, .ref b25, .ref b26, .int i27, .ref b28, .ref b29, .ref b30, .ref b31, .ref b32, .ref b33, .ref b34, .ref b35, .ref b36, .int i37, .int i38, .int i39, .int i40, .int i41, .int i42, .int i43, .int i44, .int i45, .ref b46, .ref b47, .ref b48, .ref b49, .ref b50, .ref b51, .ref b52, .ref b53, .ref b54, .ref b55, .ref b56, .ref b57, .ref b58, .ref b59, .ref b60, .ref b61, .ref b62, .ref b63])), (b59, .inl (g.2.1 2, 16, .inr (.inl (lf (stM 2 t))))), (b60, .inl (g.2.1 2, 16, .inr (.inl (lf (stM 2 (t + 1))))))] := hW
                                  refine lv_iconst (v := 0) (pc := 149) hx hb dX12_ways_149 (by decide) ?_
                                  refine lv_istore (lv' := [(5, .int 0), (0, .ref h0), (1, .int (nI 2)), (2, .int (nI h)), (3, .int (nI k)), (4, .int (nI t))]) (pc := 150) hx hb dX12_ways_150 hl (by decide) rfl (fun ls hl => ?_)
                                  have loop5 : ∀ (fx : Nat) (i : Nat), (16 < fx + i) → (i ≤ 16) → ∀ (H : Heap) (locs : List Loc) (ls : Array Slot), WD g A s H locs [(h0, .inr (12, [.int 0, .ref b1, .int i2, .int i3, .int i4, .int i5, .ref b6, .ref b7, .ref b8, .ref b9, .ref b10, .ref b11, .ref b12, .ref b13, .ref b14, .ref b15, .ref b16, .ref b17, .int i18, .int i19, .int i20, .ref b21, .ref b22, .ref b23, .ref b24, .ref b25, .ref b26, .int i27, .ref b28, .ref b29, .ref b30, .ref b31, .ref b32, .ref b33, .ref b34, .ref b35, .ref b36, .int i37, .int i38, .int i39, .int i40, .int i41, .int i42, .int i43, .int i44, .int i45, .ref b46, .ref b47, .ref b48, .ref b49, .ref b50, .ref b51, .ref b52, .ref b53, .ref b54, .ref b55, .ref b56, .ref b57, .ref b58, .ref b59, .ref b60, .ref b61, .ref b62, .ref b63])), (b59, .inl (g.2.1 2, 16, .inr (.inl (lf (cpL (stM 2 t) (stM 2 (t + 1)) i))))), (b60, .inl (g.2.1 2, 16, .inr (.inl (lf (stM 2 (t + 1))))))] → lv_has ls 7 [(0, .ref h0), (1, .int (nI 2)), (2, .int (nI h)), (3, .int (nI k)), (4, .int (nI t)), (5, .int (nI i))] → W p l e (RM 5 0 0) s m args below meth c H locs 0 0 Q (F0 m 152 ls []) := by
                                    intro fx
                                    induction fx with
                                    | zero =>
                                      intro i hm5 hi
                                      exact absurd hm5 (by omega)
                                    | succ fx ih5 =>
                                      intro i hm5 hi H locs ls hW hl
                                      refine lv_iload (pc := 152) hx hb dX12_ways_152 (lv_at hl 5 rfl) ?_
                                      refine lv_bipush (v := 16) (pc := 154) hx hb dX12_ways_154 (by decide) ?_
                                      refine lv_icmp_ge (tgt := 179) (pc := 156) hx hb dX12_ways_156 rfl (fun c18 => ?_) (fun c18 => ?_)
                                      · have h16 : i = 16 := by have := ge_t (k := 16) (by omega) (by omega) c18; omega
                                        rw [h16, cpL_all (stM_len _ _) (stM_len _ _)] at hW
                                        refine lv_iinc (v := nI (t + 1)) (lv' := [(4, .int (nI (t + 1))), (0, .ref h0), (1, .int (nI 2)), (2, .int (nI h)), (3, .int (nI k)), (5, .int (nI i))]) (pc := 179) hx hb dX12_ways_179 hl (k := 4) rfl (nI_1 t) (by decide) rfl (fun ls hl => ?_)
                                        refine lv_goto (tgt := 74) (pc := 182) hx hb dX12_ways_182 rfl ?_
                                        exact ih2 (t + 1) (stM 2 (t + 1)) (by omega) (by omega) (stM_len _ _) _ _ _ hW (lv_sub hl [1, 2, 3, 4, 0] rfl)
                                      · have hli : i < 16 := ge_f (k := 16) (by omega) (by omega) c18
                                        refine lv_aload_n (pc := 159) hx hb dX12_ways_159 rfl (lv_at hl 0 rfl) ?_
                                        refine r_get X hW 0 ciX12 59 rfl (by decide) m_1286 rfl rfl dX12_ways_160 ?_
                                        refine lv_iload (pc := 163) hx hb dX12_ways_163 (lv_at hl 5 rfl) ?_
                                        refine lv_aload_n (pc := 165) hx hb dX12_ways_165 rfl (lv_at hl 0 rfl) ?_
                                        refine r_get X hW 0 ciX12 60 rfl (by decide) m_1287 rfl rfl dX12_ways_166 ?_
                                        refine lv_iload (pc := 169) hx hb dX12_ways_169 (lv_at hl 5 rfl) ?_
                                        refine r_lald X hW 2 rfl (vp_in_nI (by omega) (by decide)) dX12_ways_171 ?_
                                        refine lv_topl (fun v19 ev19 => ?_)
                                        obtain rfl : v19 = (stM 2 (t + 1)).getD i 0 := ev19.trans (by rw [nI_clamp (by omega)])
                                        obtain ⟨f20, ef20⟩ : ∃ fz : Nat → Int64, vp_updL (lf (cpL (stM 2 t) (stM 2 (t + 1)) i)) (nI i).toNatClampNeg ((stM 2 (t + 1)).getD i 0) = fz := ⟨_, rfl⟩
                                        refine r_last (ws' := [(h0, .inr (12, [.int 0, .ref b1, .int i2, .int i3, .int i4, .int i5, .ref b6, .ref b7, .ref b8, .ref b9, .ref b10, .ref b11, .ref b12, .ref b13, .ref b14, .ref b15, .ref b16, .ref b17, .int i18, .int i19, .int i20, .ref b21, .ref b22, .ref b23, .ref b24, .ref b25, .ref b26, .int i27, .ref b28, .ref b29, .ref b30, .ref b31, .ref b32, .ref b33, .ref b34, .ref b35, .ref b36, .int i37, .int i38, .int i39, .int i40, .int i41, .int i42, .int i43, .int i44, .int i45, .ref b46, .ref b47, .ref b48, .ref b49, .ref b50, .ref b51, .ref b52, .ref b53, .ref b54, .ref b55, .ref b56, .ref b57, .ref b58, .ref b59, .ref b60, .ref b61, .ref b62, .ref b63])), (b59, .inl (g.2.1 2, 16, .inr (.inl f20))), (b60, .inl (g.2.1 2, 16, .inr (.inl (lf (stM 2 (t + 1))))))]) X hW 1 rfl (vp_in_nI (by omega) (by decide)) ef20 rfl dX12_ways_172 (fun H locs hW => ?_)
                                        refine lv_iinc (v := nI (i + 1)) (lv' := [(5, .int (nI (i + 1))), (0, .ref h0), (1, .int (nI 2)), (2, .int (nI h)), (3, .int (nI k)), (4, .int (nI t))]) (pc := 173) hx hb dX12_ways_173 hl (k := 5) rfl (nI_1 i) (by decide) rfl (fun ls hl => ?_)
                                        refine lv_goto (tgt := 152) (pc := 176) hx hb dX12_ways_176 rfl ?_
                                        obtain rfl : f20 = lf (cpL (stM 2 t) (stM 2 (t + 1)) (i + 1)) := ef20.symm.trans (by rw [nI_clamp (by omega)]; exact lf_set (by rw [cpL_len, stM_len]; omega))
                                        exact ih5 (i + 1) (by omega) (by omega) _ _ _ hW (lv_sub hl [1, 2, 3, 4, 5, 0] rfl)
                                  exact loop5 17 0 (by omega) (by omega) _ _ _ hW (lv_sub hl [1, 2, 3, 4, 5, 0] rfl)
                                · have hlq : q < 4 := ge_f (k := 4) (by omega) (by omega) c17
                                  refine lv_aload_n (pc := 115) hx hb dX12_ways_115 rfl (lv_at hl 0 rfl) ?_
                                  refine r_get X hW 0 ciX12 59 rfl (by decide) m_1286 rfl rfl dX12_ways_116 ?_
                                  refine lv_iload (pc := 119) hx hb dX12_ways_119 (lv_at hl 5 rfl) ?_
                                  refine r_lald X hW 1 rfl (vp_in_nI (by omega) (by decide)) dX12_ways_121 ?_
                                  refine lv_topl (fun v21 ev21 => ?_)
                                  obtain rfl : v21 = (stM 2 t).getD q 0 := ev21.trans (by rw [nI_clamp (by omega)])
                                  refine lv_lconst (v := 0) (pc := 122) hx hb dX12_ways_122 (by decide) ?_
                                  refine W.lcmp (pc := 123) hx hb dX12_ways_123 ?_
                                  refine lv_if_le (tgt := 143) (pc := 124) hx hb dX12_ways_124 rfl (fun c22 => ?_) (fun c22 => ?_)
                                  · have hpos := (lg_cmp_le _ _).mp c22
                                    rw [show lf (seL 2 (stM 2 t) q) = lf (seL 2 (stM 2 t) (q + 1)) from congrArg lf (if_pos hpos).symm] at hW
                                    refine lv_iinc (v := nI (q + 1)) (lv' := [(5, .int (nI (q + 1))), (0, .ref h0), (1, .int (nI 2)), (2, .int (nI h)), (3, .int (nI k)), (4, .int (nI t))]) (pc := 143) hx hb dX12_ways_143 hl (k := 5) rfl (nI_1 q) (by decide) rfl (fun ls hl => ?_)
                                    refine lv_goto (tgt := 107) (pc := 146) hx hb dX12_ways_146 rfl ?_
                                    exact ih4 (q + 1) (by omega) (by omega) _ _ _ hW (lv_sub hl [1, 2, 3, 4, 5, 0] rfl)
                                  · have hpos := fun z => c22 ((lg_cmp_le _ _).mpr z)
                                    refine lv_aload_n (pc := 127) hx hb dX12_ways_127 rfl (lv_at hl 0 rfl) ?_
                                    refine lv_iload_n (pc := 128) hx hb dX12_ways_128 rfl (lv_at hl 1 rfl) ?_
                                    refine lv_iload (pc := 129) hx hb dX12_ways_129 (lv_at hl 5 rfl) ?_
                                    refine lv_iconst (v := 0) (pc := 131) hx hb dX12_ways_131 (by decide) ?_
                                    refine lv_iconst (v := 0) (pc := 132) hx hb dX12_ways_132 (by decide) ?_
                                    refine lv_aload_n (pc := 133) hx hb dX12_ways_133 rfl (lv_at hl 0 rfl) ?_
                                    refine r_get X hW 0 ciX12 59 rfl (by decide) m_1286 rfl rfl dX12_ways_134 ?_
                                    refine lv_iload (pc := 137) hx hb dX12_ways_137 (lv_at hl 5 rfl) ?_
                                    refine r_lald X hW 1 rfl (vp_in_nI (by omega) (by decide)) dX12_ways_139 ?_
                                    refine lv_topl (fun v23 ev23 => ?_)
                                    obtain rfl : v23 = (stM 2 t).getD q 0 := ev23.trans (by rw [nI_clamp (by omega)])
                                    refine c_Vv (pc := 140) (As := [.int (nI 2), .int (nI q), .int 0, .int 0, .long ((stM 2 t).getD q 0)]) (rest := []) (wr := [(b59, .inl (g.2.1 2, 16, .inr (.inl (lf (stM 2 t)))))]) X hW 0 ciX12 rfl (C_chooseG_2 l g h0 b1 b6 b7 b8 b9 b10 b11 b12 b13 b14 b15 b16 b17 b21 b22 b23 b24 b25 b26 b28 b29 b30 b31 b32 b33 b34 b35 b36 b46 b47 b48 b49 b50 b51 b52 b53 b54 b55 b56 b57 b58 b59 b60 b61 b62 b63 0 i2 i3 i4 i5 i18 i19 i20 i27 i37 i38 i39 i40 i41 i42 i43 i44 i45 2 q 0 0 ((stM 2 t).getD q 0) (seL 2 (stM 2 t) q) (by decide) (by omega) (by decide) (seL_len _ _ _) (by decide)) vX12_388 [0, 2] [1] rfl rfl rfl rfl rfl rfl hl.1 rfl (Nat.le_of_ble_eq_true rfl) ⟨Nat.le_of_ble_eq_true rfl, Nat.le_of_ble_eq_true rfl⟩ ⟨Nat.le_of_ble_eq_true rfl, Nat.le_of_ble_eq_true rfl⟩ dX12_ways_140 (fun u9 H locs hq hW => ?_)
                                    obtain rfl := hq
                                    have hW : WD g A s _ _ [(b59, .inl (g.2.1 2, 16, .inr (.inl (lf (stM 2 t))))), (h0, .inr (12, [.int 0, .ref b1, .int i2, .int i3, .int i4, .int i5, .ref b6, .ref b7, .ref b8, .ref b9, .ref b10, .ref b11, .ref b12, .ref b13, .ref b14, .ref b15, .ref b16, .ref b17, .int i18, .int i19, .int i20, .ref b21, .ref b22, .ref b23, .ref b24, .ref b25, .ref b26, .int i27, .ref b28, .ref b29, .ref b30, .ref b31, .ref b32, .ref b33, .ref b34, .ref b35, .ref b36, .int i37, .int i38, .int i39, .int i40, .int i41, .int i42, .int i43, .int i44, .int i45, .ref b46, .ref b47, .ref b48, .ref b49, .ref b50, .ref b51, .ref b52, .ref b53, .ref b54, .ref b55, .ref b56, .ref b57, .ref b58, .ref b59, .ref b60, .ref b61, .ref b62, .ref b63])), (b60, .inl (g.2.1 2, 16, .inr (.inl (lf (chL 2 q ((stM 2 t).getD q 0) 2 0 0 (seL 2 (stM 2 t) q))))))] := hW
                                    rw [show lf (chL 2 q ((stM 2 t).getD q 0) 2 0 0 (seL 2 (stM 2 t) q)) = lf (seL 2 (stM 2 t) (q + 1)) from congrArg lf (if_neg hpos).symm] at hW
                                    refine lv_iinc (v := nI (q + 1)) (lv' := [(5, .int (nI (q + 1))), (0, .ref h0), (1, .int (nI 2)), (2, .int (nI h)), (3, .int (nI k)), (4, .int (nI t))]) (pc := 143) hx hb dX12_ways_143 hl (k := 5) rfl (nI_1 q) (by decide) rfl (fun ls hl => ?_)
                                    refine lv_goto (tgt := 107) (pc := 146) hx hb dX12_ways_146 rfl ?_
                                    have hW : WD g A s _ _ [(h0, .inr (12, [.int 0, .ref b1, .int i2, .int i3, .int i4, .int i5, .ref b6, .ref b7, .ref b8, .ref b9, .ref b10, .ref b11, .ref b12, .ref b13, .ref b14, .ref b15, .ref b16, .ref b17, .int i18, .int i19, .int i20, .ref b21, .ref b22, .ref b23, .ref b24, .ref b25, .ref b26, .int i27, .ref b28, .ref b29, .ref b30, .ref b31, .ref b32, .ref b33, .ref b34, .ref b35, .ref b36, .int i37, .int i38, .int i39, .int i40, .int i41, .int i42, .int i43, .int i44, .int i45, .ref b46, .ref b47, .ref b48, .ref b49, .ref b50, .ref b51, .ref b52, .ref b53, .ref b54, .ref b55, .ref b56, .ref b57, .ref b58, .ref b59, .ref b60, .ref b61, .ref b62, .ref b63])), (b59, .inl (g.2.1 2, 16, .inr (.inl (lf (stM 2 t))))), (b60, .inl (g.2.1 2, 16, .inr (.inl (lf (seL 2 (stM 2 t) (q + 1))))))] := hW.pick [1, 0, 2] rfl rfl
                                    exact ih4 (q + 1) (by omega) (by omega) _ _ _ hW (lv_sub hl [1, 2, 3, 4, 5, 0] rfl)
                            exact loop4 5 0 (by omega) (by omega) _ _ _ hW (lv_sub hl [1, 2, 3, 4, 5, 0] rfl)
                          · have hli : i < 16 := ge_f (k := 16) (by omega) (by omega) c15
                            refine lv_aload_n (pc := 90) hx hb dX12_ways_90 rfl (lv_at hl 0 rfl) ?_
                            refine r_get X hW 0 ciX12 60 rfl (by decide) m_1287 rfl rfl dX12_ways_91 ?_
                            refine lv_iload (pc := 94) hx hb dX12_ways_94 (lv_at hl 5 rfl) ?_
                            refine lv_lconst (v := 0) (pc := 96) hx hb dX12_ways_96 (by decide) ?_
                            obtain ⟨f24, ef24⟩ : ∃ fz : Nat → Int64, vp_updL (lf (cpL ln z16 i)) (nI i).toNatClampNeg 0 = fz := ⟨_, rfl⟩
                            refine r_last (ws' := [(h0, .inr (12, [.int 0, .ref b1, .int i2, .int i3, .int i4, .int i5, .ref b6, .ref b7, .ref b8, .ref b9, .ref b10, .ref b11, .ref b12, .ref b13, .ref b14, .ref b15, .ref b16, .ref b17, .int i18, .int i19, .int i20, .ref b21, .ref b22, .ref b23, .ref b24, .ref b25, .ref b26, .int i27, .ref b28, .ref b29, .ref b30, .ref b31, .ref b32, .ref b33, .ref b34, .ref b35, .ref b36, .int i37, .int i38, .int i39, .int i40, .int i41, .int i42, .int i43, .int i44, .int i45, .ref b46, .ref b47, .ref b48, .ref b49, .ref b50, .ref b51, .ref b52, .ref b53, .ref b54, .ref b55, .ref b56, .ref b57, .ref b58, .ref b59, .ref b60, .ref b61, .ref b62, .ref b63])), (b59, .inl (g.2.1 2, 16, .inr (.inl (lf (stM 2 t))))), (b60, .inl (g.2.1 2, 16, .inr (.inl f24)))]) X hW 2 rfl (vp_in_nI (by omega) (by decide)) ef24 rfl dX12_ways_97 (fun H locs hW => ?_)
                            refine lv_iinc (v := nI (i + 1)) (lv' := [(5, .int (nI (i + 1))), (0, .ref h0), (1, .int (nI 2)), (2, .int (nI h)), (3, .int (nI k)), (4, .int (nI t))]) (pc := 98) hx hb dX12_ways_98 hl (k := 5) rfl (nI_1 i) (by decide) rfl (fun ls hl => ?_)
                            refine lv_goto (tgt := 83) (pc := 101) hx hb dX12_ways_101 rfl ?_
                            obtain rfl : f24 = lf (cpL ln z16 (i + 1)) := ef24.symm.trans (by rw [nI_clamp (by omega), cpL, z16_at]; exact lf_set (by rw [cpL_len, hln]; omega))
                            exact ih3 (i + 1) (by omega) (by omega) _ _ _ hW (lv_sub hl [1, 2, 3, 4, 5, 0] rfl)
                      exact loop3 17 0 (by omega) (by omega) _ _ _ hW (lv_sub hl [1, 2, 3, 4, 5, 0] rfl)
                exact loop2 (h + 1) 0 ln0 (by omega) (by omega) hln0 _ _ _ hW (lv_sub hl [1, 2, 3, 4, 0] rfl)
              · have hlt : i < 16 := ge_f (k := 16) (by omega) (by omega) c7
                refine lv_aload_n (pc := 47) hx hb dX12_ways_47 rfl (lv_at hl 0 rfl) ?_
                refine r_get X hW 0 ciX12 59 rfl (by decide) m_1286 rfl rfl dX12_ways_48 ?_
                refine lv_iload (pc := 51) hx hb dX12_ways_51 (lv_at hl 4 rfl) ?_
                refine lv_iload (pc := 53) hx hb dX12_ways_53 (lv_at hl 4 rfl) ?_
                refine lv_iconst (v := 1) (pc := 55) hx hb dX12_ways_55 (by decide) ?_
                refine lv_icmp_ne (tgt := 63) (pc := 56) hx hb dX12_ways_56 rfl (fun c25 => ?_) (fun c25 => ?_)
                · have hi1 : ¬ i = 1 := fun q => c25 (congrArg nI q)
                  refine lv_lconst (v := 0) (pc := 63) hx hb dX12_ways_63 (by decide) ?_
                  obtain ⟨f26, ef26⟩ : ∃ fz : Nat → Int64, vp_updL (lf (cpL ly (m0L 16) i)) (nI i).toNatClampNeg 0 = fz := ⟨_, rfl⟩
                  refine r_last (ws' := [(h0, .inr (12, [.int 0, .ref b1, .int i2, .int i3, .int i4, .int i5, .ref b6, .ref b7, .ref b8, .ref b9, .ref b10, .ref b11, .ref b12, .ref b13, .ref b14, .ref b15, .ref b16, .ref b17, .int i18, .int i19, .int i20, .ref b21, .ref b22, .ref b23, .ref b24, .ref b25, .ref b26, .int i27, .ref b28, .ref b29, .ref b30, .ref b31, .ref b32, .ref b33, .ref b34, .ref b35, .ref b36, .int i37, .int i38, .int i39, .int i40, .int i41, .int i42, .int i43, .int i44, .int i45, .ref b46, .ref b47, .ref b48, .ref b49, .ref b50, .ref b51, .ref b52, .ref b53, .ref b54, .ref b55, .ref b56, .ref b57, .ref b58, .ref b59, .ref b60, .ref b61, .ref b62, .ref b63])), (b59, .inl (g.2.1 2, 16, .inr (.inl f26))), (b60, .inl (g.2.1 2, 16, .inr (.inl (lf ln0))))]) X hW 1 rfl (vp_in_nI (by omega) (by decide)) ef26 rfl dX12_ways_64 (fun H locs hW => ?_)
                  refine lv_iinc (v := nI (i + 1)) (lv' := [(4, .int (nI (i + 1))), (0, .ref h0), (1, .int (nI 2)), (2, .int (nI h)), (3, .int (nI k))]) (pc := 65) hx hb dX12_ways_65 hl (k := 4) rfl (nI_1 i) (by decide) rfl (fun ls hl => ?_)
                  refine lv_goto (tgt := 40) (pc := 68) hx hb dX12_ways_68 rfl ?_
                  obtain rfl : f26 = lf (cpL ly (m0L 16) (i + 1)) := ef26.symm.trans (by rw [nI_clamp (by omega), cpL, m0_at i hlt, if_neg hi1]; exact lf_set (by rw [cpL_len, hly]; omega))
                  exact ih1 (i + 1) (by omega) (by omega) _ _ _ hW (lv_sub hl [1, 2, 3, 4, 0] rfl)
                · have hi1 : i = 1 := (nI_eq (by omega) (by decide)).mp c25
                  refine lv_lconst (v := 1) (pc := 59) hx hb dX12_ways_59 (by decide) ?_
                  refine lv_goto (tgt := 64) (pc := 60) hx hb dX12_ways_60 rfl ?_
                  obtain ⟨f27, ef27⟩ : ∃ fz : Nat → Int64, vp_updL (lf (cpL ly (m0L 16) i)) (nI i).toNatClampNeg 1 = fz := ⟨_, rfl⟩
                  refine r_last (ws' := [(h0, .inr (12, [.int 0, .ref b1, .int i2, .int i3, .int i4, .int i5, .ref b6, .ref b7, .ref b8, .ref b9, .ref b10, .ref b11, .ref b12, .ref b13, .ref b14, .ref b15, .ref b16, .ref b17, .int i18, .int i19, .int i20, .ref b21, .ref b22, .ref b23, .ref b24, .ref b25, .ref b26, .int i27, .ref b28, .ref b29, .ref b30, .ref b31, .ref b32, .ref b33, .ref b34, .ref b35, .ref b36, .int i37, .int i38, .int i39, .int i40, .int i41, .int i42, .int i43, .int i44, .int i45, .ref b46, .ref b47, .ref b48, .ref b49, .ref b50, .ref b51, .ref b52, .ref b53, .ref b54, .ref b55, .ref b56, .ref b57, .ref b58, .ref b59, .ref b60, .ref b61, .ref b62, .ref b63])), (b59, .inl (g.2.1 2, 16, .inr (.inl f27))), (b60, .inl (g.2.1 2, 16, .inr (.inl (lf ln0))))]) X hW 1 rfl (vp_in_nI (by omega) (by decide)) ef27 rfl dX12_ways_64 (fun H locs hW => ?_)
                  refine lv_iinc (v := nI (i + 1)) (lv' := [(4, .int (nI (i + 1))), (0, .ref h0), (1, .int (nI 2)), (2, .int (nI h)), (3, .int (nI k))]) (pc := 65) hx hb dX12_ways_65 hl (k := 4) rfl (nI_1 i) (by decide) rfl (fun ls hl => ?_)
                  refine lv_goto (tgt := 40) (pc := 68) hx hb dX12_ways_68 rfl ?_
                  obtain rfl : f27 = lf (cpL ly (m0L 16) (i + 1)) := ef27.symm.trans (by rw [nI_clamp (by omega), cpL, m0_at i hlt, if_pos hi1]; exact lf_set (by rw [cpL_len, hly]; omega))
                  exact ih1 (i + 1) (by omega) (by omega) _ _ _ hW (lv_sub hl [1, 2, 3, 4, 0] rfl)
          exact loop1 17 0 (by omega) (by omega) _ _ _ hW (lv_sub hl [1, 2, 3, 4, 0] rfl)
        · refine lv_iconst (v := 0) (pc := 37) hx hb dX12_ways_37 (by decide) ?_
          refine lv_istore (lv' := [(4, .int 0), (0, .ref h0), (1, .int (nI 3)), (2, .int (nI h)), (3, .int (nI k))]) (pc := 38) hx hb dX12_ways_38 hl (by decide) rfl (fun ls hl => ?_)
          have loop1 : ∀ (fu : Nat) (i : Nat), (16 < fu + i) → (i ≤ 16) → ∀ (H : Heap) (locs : List Loc) (ls : Array Slot), WD g A s H locs [(h0, .inr (12, [.int 0, .ref b1, .int i2, .int i3, .int i4, .int i5, .ref b6, .ref b7, .ref b8, .ref b9, .ref b10, .ref b11, .ref b12, .ref b13, .ref b14, .ref b15, .ref b16, .ref b17, .int i18, .int i19, .int i20, .ref b21, .ref b22, .ref b23, .ref b24, .ref b25, .ref b26, .int i27, .ref b28, .ref b29, .ref b30, .ref b31, .ref b32, .ref b33, .ref b34, .ref b35, .ref b36, .int i37, .int i38, .int i39, .int i40, .int i41, .int i42, .int i43, .int i44, .int i45, .ref b46, .ref b47, .ref b48, .ref b49, .ref b50, .ref b51, .ref b52, .ref b53, .ref b54, .ref b55, .ref b56, .ref b57, .ref b58, .ref b59, .ref b60, .ref b61, .ref b62, .ref b63])), (b59, .inl (g.2.1 2, 16, .inr (.inl (lf (cpL ly (m0L 16) i))))), (b60, .inl (g.2.1 2, 16, .inr (.inl (lf ln0))))] → lv_has ls 7 [(0, .ref h0), (1, .int (nI 3)), (2, .int (nI h)), (3, .int (nI k)), (4, .int (nI i))] → W p l e (RM 5 0 0) s m args below meth c H locs 0 0 Q (F0 m 40 ls []) := by
            intro fu
            induction fu with
            | zero =>
              intro i hm hi
              exact absurd hm (by omega)
            | succ fu ih1 =>
              intro i hm hi H locs ls hW hl
              refine lv_iload (pc := 40) hx hb dX12_ways_40 (lv_at hl 4 rfl) ?_
              refine lv_bipush (v := 16) (pc := 42) hx hb dX12_ways_42 (by decide) ?_
              refine lv_icmp_ge (tgt := 71) (pc := 44) hx hb dX12_ways_44 rfl (fun c28 => ?_) (fun c28 => ?_)
              · have h16 : i = 16 := by have := ge_t (k := 16) (by omega) (by omega) c28; omega
                rw [h16, cpL_all hly (m0L_len 16)] at hW
                refine lv_iconst (v := 0) (pc := 71) hx hb dX12_ways_71 (by decide) ?_
                refine lv_istore (lv' := [(4, .int 0), (0, .ref h0), (1, .int (nI 3)), (2, .int (nI h)), (3, .int (nI k))]) (pc := 72) hx hb dX12_ways_72 hl (by decide) rfl (fun ls hl => ?_)
                have loop2 : ∀ (fv : Nat) (t : Nat) (ln : List Int64), (h < fv + t) → (t ≤ h) → (ln.length = 16) → ∀ (H : Heap) (locs : List Loc) (ls : Array Slot), WD g A s H locs [(h0, .inr (12, [.int 0, .ref b1, .int i2, .int i3, .int i4, .int i5, .ref b6, .ref b7, .ref b8, .ref b9, .ref b10, .ref b11, .ref b12, .ref b13, .ref b14, .ref b15, .ref b16, .ref b17, .int i18, .int i19, .int i20, .ref b21, .ref b22, .ref b23, .ref b24, .ref b25, .ref b26, .int i27, .ref b28, .ref b29, .ref b30, .ref b31, .ref b32, .ref b33, .ref b34, .ref b35, .ref b36, .int i37, .int i38, .int i39, .int i40, .int i41, .int i42, .int i43, .int i44, .int i45, .ref b46, .ref b47, .ref b48, .ref b49, .ref b50, .ref b51, .ref b52, .ref b53, .ref b54, .ref b55, .ref b56, .ref b57, .ref b58, .ref b59, .ref b60, .ref b61, .ref b62, .ref b63])), (b59, .inl (g.2.1 2, 16, .inr (.inl (lf (stM 3 t))))), (b60, .inl (g.2.1 2, 16, .inr (.inl (lf (ln)))))] → lv_has ls 7 [(0, .ref h0), (1, .int (nI 3)), (2, .int (nI h)), (3, .int (nI k)), (4, .int (nI t))] → W p l e (RM 5 0 0) s m args below meth c H locs 0 0 Q (F0 m 74 ls []) := by
                  intro fv
                  induction fv with
                  | zero =>
                    intro t ln hm2 ht hln
                    exact absurd hm2 (by omega)
                  | succ fv ih2 =>
                    intro t ln hm2 ht hln H locs ls hW hl
                    refine lv_iload (pc := 74) hx hb dX12_ways_74 (lv_at hl 4 rfl) ?_
                    refine lv_iload_n (pc := 76) hx hb dX12_ways_76 rfl (lv_at hl 2 rfl) ?_
                    refine lv_icmp_ge (tgt := 185) (pc := 77) hx hb dX12_ways_77 rfl (fun c29 => ?_) (fun c29 => ?_)
                    · have hth : t = h := by have := ge_t (k := h) (by omega) (by omega) c29; omega
                      rw [hth] at hW
                      refine lv_lconst (v := 0) (pc := 185) hx hb dX12_ways_185 (by decide) ?_
                      refine lv_lstore (lv' := [(4, .long 0), (0, .ref h0), (1, .int (nI 3)), (2, .int (nI h)), (3, .int (nI k))]) (pc := 186) hx hb dX12_ways_186 hl (by decide) rfl (fun ls hl => ?_)
                      refine lv_iconst (v := 0) (pc := 188) hx hb dX12_ways_188 (by decide) ?_
                      refine lv_istore (lv' := [(6, .int 0), (4, .long 0), (0, .ref h0), (1, .int (nI 3)), (2, .int (nI h)), (3, .int (nI k))]) (pc := 189) hx hb dX12_ways_189 hl (by decide) rfl (fun ls hl => ?_)
                      have loop6 : ∀ (fx : Nat) (i : Nat), (16 < fx + i) → (i ≤ 16) → ∀ (H : Heap) (locs : List Loc) (ls : Array Slot), WD g A s H locs [(h0, .inr (12, [.int 0, .ref b1, .int i2, .int i3, .int i4, .int i5, .ref b6, .ref b7, .ref b8, .ref b9, .ref b10, .ref b11, .ref b12, .ref b13, .ref b14, .ref b15, .ref b16, .ref b17, .int i18, .int i19, .int i20, .ref b21, .ref b22, .ref b23, .ref b24, .ref b25, .ref b26, .int i27, .ref b28, .ref b29, .ref b30, .ref b31, .ref b32, .ref b33, .ref b34, .ref b35, .ref b36, .int i37, .int i38, .int i39, .int i40, .int i41, .int i42, .int i43, .int i44, .int i45, .ref b46, .ref b47, .ref b48, .ref b49, .ref b50, .ref b51, .ref b52, .ref b53, .ref b54, .ref b55, .ref b56, .ref b57, .ref b58, .ref b59, .ref b60, .ref b61, .ref b62, .ref b63])), (b59, .inl (g.2.1 2, 16, .inr (.inl (lf (stM 3 h))))), (b60, .inl (g.2.1 2, 16, .inr (.inl (lf (ln)))))] → lv_has ls 7 [(0, .ref h0), (1, .int (nI 3)), (2, .int (nI h)), (3, .int (nI k)), (4, .long (smM (stM 3 h) k i)), (6, .int (nI i))] → W p l e (RM 5 0 0) s m args below meth c H locs 0 0 Q (F0 m 191 ls []) := by
                        intro fx
                        induction fx with
                        | zero =>
                          intro i hm6 hi
                          exact absurd hm6 (by omega)
                        | succ fx ih6 =>
                          intro i hm6 hi H locs ls hW hl
                          refine lv_iload (pc := 191) hx hb dX12_ways_191 (lv_at hl 5 rfl) ?_
                          refine lv_bipush (v := 16) (pc := 193) hx hb dX12_ways_193 (by decide) ?_
                          refine lv_icmp_ge (tgt := 229) (pc := 195) hx hb dX12_ways_195 rfl (fun c30 => ?_) (fun c30 => ?_)
                          · have h16 : i = 16 := by have := ge_t (k := 16) (by omega) (by omega) c30; omega
                            refine lv_lload (pc := 229) hx hb dX12_ways_229 (lv_at hl 4 rfl) ?_
                            exact e_l X hQ hr hW (u := [(h0, .inr (12, [.int 0, .ref b1, .int i2, .int i3, .int i4, .int i5, .ref b6, .ref b7, .ref b8, .ref b9, .ref b10, .ref b11, .ref b12, .ref b13, .ref b14, .ref b15, .ref b16, .ref b17, .int i18, .int i19, .int i20, .ref b21, .ref b22, .ref b23, .ref b24, .ref b25, .ref b26, .int i27, .ref b28, .ref b29, .ref b30, .ref b31, .ref b32, .ref b33, .ref b34, .ref b35, .ref b36, .int i37, .int i38, .int i39, .int i40, .int i41, .int i42, .int i43, .int i44, .int i45, .ref b46, .ref b47, .ref b48, .ref b49, .ref b50, .ref b51, .ref b52, .ref b53, .ref b54, .ref b55, .ref b56, .ref b57, .ref b58, .ref b59, .ref b60, .ref b61, .ref b62, .ref b63])), (b59, .inl (g.2.1 2, 16, .inr (.inl (lf (stM 3 h))))), (b60, .inl (g.2.1 2, 16, .inr (.inl (lf (ln)))))]) [0, 1, 2] rfl rfl (⟨by rw [h16, hwv]; exact fin_w (by decide) (by decide) hh1 hh hk1 hk, _, _, rfl⟩) ⟨Nat.le_of_ble_eq_true rfl, Nat.le_of_ble_eq_true rfl⟩ dX12_ways_231
                          · have hli : i < 16 := ge_f (k := 16) (by omega) (by omega) c30
                            have hp4 := pop4_le i hli
                            refine lv_lload (pc := 198) hx hb dX12_ways_198 (lv_at hl 4 rfl) ?_
                            refine lv_iload (pc := 200) hx hb dX12_ways_200 (lv_at hl 5 rfl) ?_
                            refine c_Si (pc := 202) (As := [.int (nI i)]) (rest := [.long (smM (stM 3 h) k i)]) (wr := [(h0, .inr (12, [.int 0, .ref b1, .int i2, .int i3, .int i4, .int i5, .ref b6, .ref b7, .ref b8, .ref b9, .ref b10, .ref b11, .ref b12, .ref b13, .ref b14, .ref b15, .ref b16, .ref b17, .int i18, .int i19, .int i20, .ref b21, .ref b22, .ref b23, .ref b24, .ref b25, .ref b26, .int i27, .ref b28, .ref b29, .ref b30, .ref b31, .ref b32, .ref b33, .ref b34, .ref b35, .ref b36, .int i37, .int i38, .int i39, .int i40, .int i41, .int i42, .int i43, .int i44, .int i45, .ref b46, .ref b47, .ref b48, .ref b49, .ref b50, .ref b51, .ref b52, .ref b53, .ref b54, .ref b55, .ref b56, .ref b57, .ref b58, .ref b59, .ref b60, .ref b61, .ref b62, .ref b63])), (b59, .inl (g.2.1 2, 16, .inr (.inl (lf (stM 3 h))))), (b60, .inl (g.2.1 2, 16, .inr (.inl (lf (ln)))))]) X hW (C_J6_bitCount_0f7a4 l g (nI i)) vX12_334 [] [0, 1, 2] rfl rfl rfl rfl rfl rfl hl.1 rfl (Nat.le_of_ble_eq_true rfl) ⟨Nat.le_of_ble_eq_true rfl, Nat.le_of_ble_eq_true rfl⟩ ⟨Nat.le_of_ble_eq_true rfl, Nat.le_of_ble_eq_true rfl⟩ dX12_ways_202 (fun r31 u9 H locs hq hW => ?_)
                            obtain ⟨hr9, rfl⟩ := hq
                            obtain rfl : r31 = nI (pop4 i) := hr9.trans (bc_n _ (by omega))
                            have hW : WD g A s _ _ [(h0, .inr (12, [.int 0, .ref b1, .int i2, .int i3, .int i4, .int i5, .ref b6, .ref b7, .ref b8, .ref b9, .ref b10, .ref b11, .ref b12, .ref b13, .ref b14, .ref b15, .ref b16, .ref b17, .int i18, .int i19, .int i20, .ref b21, .ref b22, .ref b23, .ref b24, .ref b25, .ref b26, .int i27, .ref b28, .ref b29, .ref b30, .ref b31, .ref b32, .ref b33, .ref b34, .ref b35, .ref b36, .int i37, .int i38, .int i39, .int i40, .int i41, .int i42, .int i43, .int i44, .int i45, .ref b46, .ref b47, .ref b48, .ref b49, .ref b50, .ref b51, .ref b52, .ref b53, .ref b54, .ref b55, .ref b56, .ref b57, .ref b58, .ref b59, .ref b60, .ref b61, .ref b62, .ref b63])), (b59, .inl (g.2.1 2, 16, .inr (.inl (lf (stM 3 h))))), (b60, .inl (g.2.1 2, 16, .inr (.inl (lf (ln)))))] := hW
                            refine lv_iload_n (pc := 205) hx hb dX12_ways_205 rfl (lv_at hl 3 rfl) ?_
                            refine lv_icmp_ne (tgt := 219) (pc := 206) hx hb dX12_ways_206 rfl (fun c32 => ?_) (fun c32 => ?_)
                            · have hpk : ¬ pop4 i = k := fun q => c32 (congrArg nI q)
                              refine lv_lconst (v := 0) (pc := 219) hx hb dX12_ways_219 (by decide) ?_
                              refine lv_ladd (pc := 220) hx hb dX12_ways_220 ?_
                              refine lv_topl (fun v33 ev33 => ?_)
                              obtain rfl : v33 = smM (stM 3 h) k (i + 1) := ev33.trans (by rw [smM, if_neg hpk])
                              refine lv_lstore (lv' := [(4, .long (smM (stM 3 h) k (i + 1))), (0, .ref h0), (1, .int (nI 3)), (2, .int (nI h)), (3, .int (nI k)), (6, .int (nI i))]) (pc := 221) hx hb dX12_ways_221 hl (by decide) rfl (fun ls hl => ?_)
                              refine lv_iinc (v := nI (i + 1)) (lv' := [(6, .int (nI (i + 1))), (4, .long (smM (stM 3 h) k (i + 1))), (0, .ref h0), (1, .int (nI 3)), (2, .int (nI h)), (3, .int (nI k))]) (pc := 223) hx hb dX12_ways_223 hl (k := 5) rfl (nI_1 i) (by decide) rfl (fun ls hl => ?_)
                              refine lv_goto (tgt := 191) (pc := 226) hx hb dX12_ways_226 rfl ?_
                              exact ih6 (i + 1) (by omega) (by omega) _ _ _ hW (lv_sub hl [2, 3, 4, 5, 1, 0] rfl)
                            · have hpk : pop4 i = k := (nI_eq (by omega) (by omega)).mp c32
                              refine lv_aload_n (pc := 209) hx hb dX12_ways_209 rfl (lv_at hl 0 rfl) ?_
                              refine r_get X hW 0 ciX12 59 rfl (by decide) m_1286 rfl rfl dX12_ways_210 ?_
                              refine lv_iload (pc := 213) hx hb dX12_ways_213 (lv_at hl 5 rfl) ?_
                              refine r_lald X hW 1 rfl (vp_in_nI (by omega) (by decide)) dX12_ways_215 ?_
                              refine lv_topl (fun v34 ev34 => ?_)
                              obtain rfl : v34 = (stM 3 h).getD i 0 := ev34.trans (by rw [nI_clamp (by omega)])
                              refine lv_goto (tgt := 220) (pc := 216) hx hb dX12_ways_216 rfl ?_
                              refine lv_ladd (pc := 220) hx hb dX12_ways_220 ?_
                              refine lv_topl (fun v35 ev35 => ?_)
                              obtain rfl : v35 = smM (stM 3 h) k (i + 1) := ev35.trans (by rw [smM, if_pos hpk])
                              refine lv_lstore (lv' := [(4, .long (smM (stM 3 h) k (i + 1))), (0, .ref h0), (1, .int (nI 3)), (2, .int (nI h)), (3, .int (nI k)), (6, .int (nI i))]) (pc := 221) hx hb dX12_ways_221 hl (by decide) rfl (fun ls hl => ?_)
                              refine lv_iinc (v := nI (i + 1)) (lv' := [(6, .int (nI (i + 1))), (4, .long (smM (stM 3 h) k (i + 1))), (0, .ref h0), (1, .int (nI 3)), (2, .int (nI h)), (3, .int (nI k))]) (pc := 223) hx hb dX12_ways_223 hl (k := 5) rfl (nI_1 i) (by decide) rfl (fun ls hl => ?_)
                              refine lv_goto (tgt := 191) (pc := 226) hx hb dX12_ways_226 rfl ?_
                              exact ih6 (i + 1) (by omega) (by omega) _ _ _ hW (lv_sub hl [2, 3, 4, 5, 1, 0] rfl)
                      exact loop6 17 0 (by omega) (by omega) _ _ _ hW (lv_sub hl [2, 3, 4, 5, 1, 0] rfl)
                    · have hlt : t < h := ge_f (k := h) (by omega) (by omega) c29
                      refine lv_iconst (v := 0) (pc := 80) hx hb dX12_ways_80 (by decide) ?_
                      refine lv_istore (lv' := [(5, .int 0), (0, .ref h0), (1, .int (nI 3)), (2, .int (nI h)), (3, .int (nI k)), (4, .int (nI t))]) (pc := 81) hx hb dX12_ways_81 hl (by decide) rfl (fun ls hl => ?_)
                      have loop3 : ∀ (fx : Nat) (i : Nat), (16 < fx + i) → (i ≤ 16) → ∀ (H : Heap) (locs : List Loc) (ls : Array Slot), WD g A s H locs [(h0, .inr (12, [.int 0, .ref b1, .int i2, .int i3, .int i4, .int i5, .ref b6, .ref b7, .ref b8, .ref b9, .ref b10, .ref b11, .ref b12, .ref b13, .ref b14, .ref b15, .ref b16, .ref b17, .int i18, .int i19, .int i20, .ref b21, .ref b22, .ref b23, .ref b24, .ref b25, .ref b26, .int i27, .ref b28, .ref b29, .ref b30, .ref b31, .ref b32, .ref b33, .ref b34, .ref b35, .ref b36, .int i37, .int i38, .int i39, .int i40, .int i41, .int i42, .int i43, .int i44, .int i45, .ref b46, .ref b47, .ref b48, .ref b49, .ref b50, .ref b51, .ref b52, .ref b53, .ref b54, .ref b55, .ref b56, .ref b57, .ref b58, .ref b59, .ref b60, .ref b61, .ref b62, .ref b63])), (b59, .inl (g.2.1 2, 16, .inr (.inl (lf (stM 3 t))))), (b60, .inl (g.2.1 2, 16, .inr (.inl (lf (cpL ln z16 i)))))] → lv_has ls 7 [(0, .ref h0), (1, .int (nI 3)), (2, .int (nI h)), (3, .int (nI k)), (4, .int (nI t)), (5, .int (nI i))] → W p l e (RM 5 0 0) s m args below meth c H locs 0 0 Q (F0 m 83 ls []) := by
                        intro fx
                        induction fx with
                        | zero =>
                          intro i hm3 hi
                          exact absurd hm3 (by omega)
                        | succ fx ih3 =>
                          intro i hm3 hi H locs ls hW hl
                          refine lv_iload (pc := 83) hx hb dX12_ways_83 (lv_at hl 5 rfl) ?_
                          refine lv_bipush (v := 16) (pc := 85) hx hb dX12_ways_85 (by decide) ?_
                          refine lv_icmp_ge (tgt := 104) (pc := 87) hx hb dX12_ways_87 rfl (fun c36 => ?_) (fun c36 => ?_)
                          · have h16 : i = 16 := by have := ge_t (k := 16) (by omega) (by omega) c36; omega
                            rw [h16, cpL_all hln rfl] at hW
                            refine lv_iconst (v := 0) (pc := 104) hx hb dX12_ways_104 (by decide) ?_
                            refine lv_istore (lv' := [(5, .int 0), (0, .ref h0), (1, .int (nI 3)), (2, .int (nI h)), (3, .int (nI k)), (4, .int (nI t))]) (pc := 105) hx hb dX12_ways_105 hl (by decide) rfl (fun ls hl => ?_)
                            have loop4 : ∀ (fx : Nat) (q : Nat), (8 < fx + q) → (q ≤ 8) → ∀ (H : Heap) (locs : List Loc) (ls : Array Slot), WD g A s H locs [(h0, .inr (12, [.int 0, .ref b1, .int i2, .int i3, .int i4, .int i5, .ref b6, .ref b7, .ref b8, .ref b9, .ref b10, .ref b11, .ref b12, .ref b13, .ref b14, .ref b15, .ref b16, .ref b17, .int i18, .int i19, .int i20, .ref b21, .ref b22, .ref b23, .ref b24, .ref b25, .ref b26, .int i27, .ref b28, .ref b29, .ref b30, .ref b31, .ref b32, .ref b33, .ref b34, .ref b35, .ref b36, .int i37, .int i38, .int i39, .int i40, .int i41, .int i42, .int i43, .int i44, .int i45, .ref b46, .ref b47, .ref b48, .ref b49, .ref b50, .ref b51, .ref b52, .ref b53, .ref b54, .ref b55, .ref b56, .ref b57, .ref b58, .ref b59, .ref b60, .ref b61, .ref b62, .ref b63])), (b59, .inl (g.2.1 2, 16, .inr (.inl (lf (stM 3 t))))), (b60, .inl (g.2.1 2, 16, .inr (.inl (lf (seL 3 (stM 3 t) q)))))] → lv_has ls 7 [(0, .ref h0), (1, .int (nI 3)), (2, .int (nI h)), (3, .int (nI k)), (4, .int (nI t)), (5, .int (nI q))] → W p l e (RM 5 0 0) s m args below meth c H locs 0 0 Q (F0 m 107 ls []) := by
                              intro fx
                              induction fx with
                              | zero =>
                                intro q hm4 hq
                                exact absurd hm4 (by omega)
                              | succ fx ih4 =>
                                intro q hm4 hq H locs ls hW hl
                                refine lv_iload (pc := 107) hx hb dX12_ways_107 (lv_at hl 5 rfl) ?_
                                refine lv_iconst (v := 1) (pc := 109) hx hb dX12_ways_109 (by decide) ?_
                                refine lv_iload_n (pc := 110) hx hb dX12_ways_110 rfl (lv_at hl 1 rfl) ?_
                                refine lv_ishl (pc := 111) hx hb dX12_ways_111 ?_
                                refine lv_topi (fun v37 ev37 => ?_)
                                obtain rfl : v37 = nI 8 := ev37.trans (by decide +kernel)
                                refine lv_icmp_ge (tgt := 149) (pc := 112) hx hb dX12_ways_112 rfl (fun c38 => ?_) (fun c38 => ?_)
                                · have hqe : q = 8 := by have := ge_t (k := 8) (by omega) (by omega) c38; omega
                                  rw [hqe] at hW
                                  have hW : WD g A s _ _ [(h0, .inr (12, [.int 0, .ref b1, .int i2, .int i3, .int i4, .int i5, .ref b6, .ref b7, .ref b8, .ref b9, .ref b10, .ref b11, .ref b12, .ref b13, .ref b14, .ref b15, .ref b16, .ref b17, .int i18, .int i19, .int i20, .ref b21, .ref b22, .ref b23, .ref b24, .ref b25, .ref b26, .int i27, .ref b28, .ref b29, .ref b30, .ref b31, .ref b32, .ref b33, .ref b34, .ref b35, .ref b36, .int i37, .int i38, .int i39, .int i40, .int i41, .int i42, .int i43, .int i44, .int i45, .ref b46, .ref b47, .ref b48, .ref b49, .ref b50, .ref b51, .ref b52, .ref b53, .ref b54, .ref b55, .ref b56, .ref b57, .ref b58, .ref b59, .ref b60, .ref b61, .ref b62, .ref b63])), (b59, .inl (g.2.1 2, 16, .inr (.inl (lf (stM 3 t))))), (b60, .inl (g.2.1 2, 16, .inr (.inl (lf (stM 3 (t + 1))))))] := hW
                                  refine lv_iconst (v := 0) (pc := 149) hx hb dX12_ways_149 (by decide) ?_
                                  refine lv_istore (lv' := [(5, .int 0), (0, .ref h0), (1, .int (nI 3)), (2, .int (nI h)), (3, .int (nI k)), (4, .int (nI t))]) (pc := 150) hx hb dX12_ways_150 hl (by decide) rfl (fun ls hl => ?_)
                                  have loop5 : ∀ (fx : Nat) (i : Nat), (16 < fx + i) → (i ≤ 16) → ∀ (H : Heap) (locs : List Loc) (ls : Array Slot), WD g A s H locs [(h0, .inr (12, [.int 0, .ref b1, .int i2, .int i3, .int i4, .int i5, .ref b6, .ref b7, .ref b8, .ref b9, .ref b10, .ref b11, .ref b12, .ref b13, .ref b14, .ref b15, .ref b16, .ref b17, .int i18, .int i19, .int i20, .ref b21, .ref b22, .ref b23, .ref b24, .ref b25, .ref b26, .int i27, .ref b28, .ref b29, .ref b30, .ref b31, .ref b32, .ref b33, .ref b34, .ref b35, .ref b36, .int i37, .int i38, .int i39, .int i40, .int i41, .int i42, .int i43, .int i44, .int i45, .ref b46, .ref b47, .ref b48, .ref b49, .ref b50, .ref b51, .ref b52, .ref b53, .ref b54, .ref b55, .ref b56, .ref b57, .ref b58, .ref b59, .ref b60, .ref b61, .ref b62, .ref b63])), (b59, .inl (g.2.1 2, 16, .inr (.inl (lf (cpL (stM 3 t) (stM 3 (t + 1)) i))))), (b60, .inl (g.2.1 2, 16, .inr (.inl (lf (stM 3 (t + 1))))))] → lv_has ls 7 [(0, .ref h0), (1, .int (nI 3)), (2, .int (nI h)), (3, .int (nI k)), (4, .int (nI t)), (5, .int (nI i))] → W p l e (RM 5 0 0) s m args below meth c H locs 0 0 Q (F0 m 152 ls []) := by
                                    intro fx
                                    induction fx with
                                    | zero =>
                                      intro i hm5 hi
                                      exact absurd hm5 (by omega)
                                    | succ fx ih5 =>
                                      intro i hm5 hi H locs ls hW hl
                                      refine lv_iload (pc := 152) hx hb dX12_ways_152 (lv_at hl 5 rfl) ?_
                                      refine lv_bipush (v := 16) (pc := 154) hx hb dX12_ways_154 (by decide) ?_
                                      refine lv_icmp_ge (tgt := 179) (pc := 156) hx hb dX12_ways_156 rfl (fun c39 => ?_) (fun c39 => ?_)
                                      · have h16 : i = 16 := by have := ge_t (k := 16) (by omega) (by omega) c39; omega
                                        rw [h16, cpL_all (stM_len _ _) (stM_len _ _)] at hW
                                        refine lv_iinc (v := nI (t + 1)) (lv' := [(4, .int (nI (t + 1))), (0, .ref h0), (1, .int (nI 3)), (2, .int (nI h)), (3, .int (nI k)), (5, .int (nI i))]) (pc := 179) hx hb dX12_ways_179 hl (k := 4) rfl (nI_1 t) (by decide) rfl (fun ls hl => ?_)
                                        refine lv_goto (tgt := 74) (pc := 182) hx hb dX12_ways_182 rfl ?_
                                        exact ih2 (t + 1) (stM 3 (t + 1)) (by omega) (by omega) (stM_len _ _) _ _ _ hW (lv_sub hl [1, 2, 3, 4, 0] rfl)
                                      · have hli : i < 16 := ge_f (k := 16) (by omega) (by omega) c39
                                        refine lv_aload_n (pc := 159) hx hb dX12_ways_159 rfl (lv_at hl 0 rfl) ?_
                                        refine r_get X hW 0 ciX12 59 rfl (by decide) m_1286 rfl rfl dX12_ways_160 ?_
                                        refine lv_iload (pc := 163) hx hb dX12_ways_163 (lv_at hl 5 rfl) ?_
                                        refine lv_aload_n (pc := 165) hx hb dX12_ways_165 rfl (lv_at hl 0 rfl) ?_
                                        refine r_get X hW 0 ciX12 60 rfl (by decide) m_1287 rfl rfl dX12_ways_166 ?_
                                        refine lv_iload (pc := 169) hx hb dX12_ways_169 (lv_at hl 5 rfl) ?_
                                        refine r_lald X hW 2 rfl (vp_in_nI (by omega) (by decide)) dX12_ways_171 ?_
                                        refine lv_topl (fun v40 ev40 => ?_)
                                        obtain rfl : v40 = (stM 3 (t + 1)).getD i 0 := ev40.trans (by rw [nI_clamp (by omega)])
                                        obtain ⟨f41, ef41⟩ : ∃ fz : Nat → Int64, vp_updL (lf (cpL (stM 3 t) (stM 3 (t + 1)) i)) (nI i).toNatClampNeg ((stM 3 (t + 1)).getD i 0) = fz := ⟨_, rfl⟩
                                        refine r_last (ws' := [(h0, .inr (12, [.int 0, .ref b1, .int i2, .int i3, .int i4, .int i5, .ref b6, .ref b7, .ref b8, .ref b9, .ref b10, .ref b11, .ref b12, .ref b13, .ref b14, .ref b15, .ref b16, .ref b17, .int i18, .int i19, .int i20, .ref b21, .ref b22, .ref b23, .ref b24, .ref b25, .ref b26, .int i27, .ref b28, .ref b29, .ref b30, .ref b31, .ref b32, .ref b33, .ref b34, .ref b35, .ref b36, .int i37, .int i38, .int i39, .int i40, .int i41, .int i42, .int i43, .int i44, .int i45, .ref b46, .ref b47, .ref b48, .ref b49, .ref b50, .ref b51, .ref b52, .ref b53, .ref b54, .ref b55, .ref b56, .ref b57, .ref b58, .ref b59, .ref b60, .ref b61, .ref b62, .ref b63])), (b59, .inl (g.2.1 2, 16, .inr (.inl f41))), (b60, .inl (g.2.1 2, 16, .inr (.inl (lf (stM 3 (t + 1))))))]) X hW 1 rfl (vp_in_nI (by omega) (by decide)) ef41 rfl dX12_ways_172 (fun H locs hW => ?_)
                                        refine lv_iinc (v := nI (i + 1)) (lv' := [(5, .int (nI (i + 1))), (0, .ref h0), (1, .int (nI 3)), (2, .int (nI h)), (3, .int (nI k)), (4, .int (nI t))]) (pc := 173) hx hb dX12_ways_173 hl (k := 5) rfl (nI_1 i) (by decide) rfl (fun ls hl => ?_)
                                        refine lv_goto (tgt := 152) (pc := 176) hx hb dX12_ways_176 rfl ?_
                                        obtain rfl : f41 = lf (cpL (stM 3 t) (stM 3 (t + 1)) (i + 1)) := ef41.symm.trans (by rw [nI_clamp (by omega)]; exact lf_set (by rw [cpL_len, stM_len]; omega))
                                        exact ih5 (i + 1) (by omega) (by omega) _ _ _ hW (lv_sub hl [1, 2, 3, 4, 5, 0] rfl)
                                  exact loop5 17 0 (by omega) (by omega) _ _ _ hW (lv_sub hl [1, 2, 3, 4, 5, 0] rfl)
                                · have hlq : q < 8 := ge_f (k := 8) (by omega) (by omega) c38
                                  refine lv_aload_n (pc := 115) hx hb dX12_ways_115 rfl (lv_at hl 0 rfl) ?_
                                  refine r_get X hW 0 ciX12 59 rfl (by decide) m_1286 rfl rfl dX12_ways_116 ?_
                                  refine lv_iload (pc := 119) hx hb dX12_ways_119 (lv_at hl 5 rfl) ?_
                                  refine r_lald X hW 1 rfl (vp_in_nI (by omega) (by decide)) dX12_ways_121 ?_
                                  refine lv_topl (fun v42 ev42 => ?_)
                                  obtain rfl : v42 = (stM 3 t).getD q 0 := ev42.trans (by rw [nI_clamp (by omega)])
                                  refine lv_lconst (v := 0) (pc := 122) hx hb dX12_ways_122 (by decide) ?_
                                  refine W.lcmp (pc := 123) hx hb dX12_ways_123 ?_
                                  refine lv_if_le (tgt := 143) (pc := 124) hx hb dX12_ways_124 rfl (fun c43 => ?_) (fun c43 => ?_)
                                  · have hpos := (lg_cmp_le _ _).mp c43
                                    rw [show lf (seL 3 (stM 3 t) q) = lf (seL 3 (stM 3 t) (q + 1)) from congrArg lf (if_pos hpos).symm] at hW
                                    refine lv_iinc (v := nI (q + 1)) (lv' := [(5, .int (nI (q + 1))), (0, .ref h0), (1, .int (nI 3)), (2, .int (nI h)), (3, .int (nI k)), (4, .int (nI t))]) (pc := 143) hx hb dX12_ways_143 hl (k := 5) rfl (nI_1 q) (by decide) rfl (fun ls hl => ?_)
                                    refine lv_goto (tgt := 107) (pc := 146) hx hb dX12_ways_146 rfl ?_
                                    exact ih4 (q + 1) (by omega) (by omega) _ _ _ hW (lv_sub hl [1, 2, 3, 4, 5, 0] rfl)
                                  · have hpos := fun z => c43 ((lg_cmp_le _ _).mpr z)
                                    refine lv_aload_n (pc := 127) hx hb dX12_ways_127 rfl (lv_at hl 0 rfl) ?_
                                    refine lv_iload_n (pc := 128) hx hb dX12_ways_128 rfl (lv_at hl 1 rfl) ?_
                                    refine lv_iload (pc := 129) hx hb dX12_ways_129 (lv_at hl 5 rfl) ?_
                                    refine lv_iconst (v := 0) (pc := 131) hx hb dX12_ways_131 (by decide) ?_
                                    refine lv_iconst (v := 0) (pc := 132) hx hb dX12_ways_132 (by decide) ?_
                                    refine lv_aload_n (pc := 133) hx hb dX12_ways_133 rfl (lv_at hl 0 rfl) ?_
                                    refine r_get X hW 0 ciX12 59 rfl (by decide) m_1286 rfl rfl dX12_ways_134 ?_
                                    refine lv_iload (pc := 137) hx hb dX12_ways_137 (lv_at hl 5 rfl) ?_
                                    refine r_lald X hW 1 rfl (vp_in_nI (by omega) (by decide)) dX12_ways_139 ?_
                                    refine lv_topl (fun v44 ev44 => ?_)
                                    obtain rfl : v44 = (stM 3 t).getD q 0 := ev44.trans (by rw [nI_clamp (by omega)])
                                    refine c_Vv (pc := 140) (As := [.int (nI 3), .int (nI q), .int 0, .int 0, .long ((stM 3 t).getD q 0)]) (rest := []) (wr := [(b59, .inl (g.2.1 2, 16, .inr (.inl (lf (stM 3 t)))))]) X hW 0 ciX12 rfl (C_chooseG_3 l g h0 b1 b6 b7 b8 b9 b10 b11 b12 b13 b14 b15 b16 b17 b21 b22 b23 b24 b25 b26 b28 b29 b30 b31 b32 b33 b34 b35 b36 b46 b47 b48 b49 b50 b51 b52 b53 b54 b55 b56 b57 b58 b59 b60 b61 b62 b63 0 i2 i3 i4 i5 i18 i19 i20 i27 i37 i38 i39 i40 i41 i42 i43 i44 i45 3 q 0 0 ((stM 3 t).getD q 0) (seL 3 (stM 3 t) q) (by decide) (by omega) (by decide) (seL_len _ _ _) (by decide)) vX12_388 [0, 2] [1] rfl rfl rfl rfl rfl rfl hl.1 rfl (Nat.le_of_ble_eq_true rfl) ⟨Nat.le_of_ble_eq_true rfl, Nat.le_of_ble_eq_true rfl⟩ ⟨Nat.le_of_ble_eq_true rfl, Nat.le_of_ble_eq_true rfl⟩ dX12_ways_140 (fun u9 H locs hq hW => ?_)
                                    obtain rfl := hq
                                    have hW : WD g A s _ _ [(b59, .inl (g.2.1 2, 16, .inr (.inl (lf (stM 3 t))))), (h0, .inr (12, [.int 0, .ref b1, .int i2, .int i3, .int i4, .int i5, .ref b6, .ref b7, .ref b8, .ref b9, .ref b10, .ref b11, .ref b12, .ref b13, .ref b14, .ref b15, .ref b16, .ref b17, .int i18, .int i19, .int i20, .ref b21, .ref b22, .ref b23, .ref b24, .ref b25, .ref b26, .int i27, .ref b28, .ref b29, .ref b30, .ref b31, .ref b32, .ref b33, .ref b34, .ref b35, .ref b36, .int i37, .int i38, .int i39, .int i40, .int i41, .int i42, .int i43, .int i44, .int i45, .ref b46, .ref b47, .ref b48, .ref b49, .ref b50, .ref b51, .ref b52, .ref b53, .ref b54, .ref b55, .ref b56, .ref b57, .ref b58, .ref b59, .ref b60, .ref b61, .ref b62, .ref b63])), (b60, .inl (g.2.1 2, 16, .inr (.inl (lf (chL 3 q ((stM 3 t).getD q 0) 3 0 0 (seL 3 (stM 3 t) q))))))] := hW
                                    rw [show lf (chL 3 q ((stM 3 t).getD q 0) 3 0 0 (seL 3 (stM 3 t) q)) = lf (seL 3 (stM 3 t) (q + 1)) from congrArg lf (if_neg hpos).symm] at hW
                                    refine lv_iinc (v := nI (q + 1)) (lv' := [(5, .int (nI (q + 1))), (0, .ref h0), (1, .int (nI 3)), (2, .int (nI h)), (3, .int (nI k)), (4, .int (nI t))]) (pc := 143) hx hb dX12_ways_143 hl (k := 5) rfl (nI_1 q) (by decide) rfl (fun ls hl => ?_)
                                    refine lv_goto (tgt := 107) (pc := 146) hx hb dX12_ways_146 rfl ?_
                                    have hW : WD g A s _ _ [(h0, .inr (12, [.int 0, .ref b1, .int i2, .int i3, .int i4, .int i5, .ref b6, .ref b7, .ref b8, .ref b9, .ref b10, .ref b11, .ref b12, .ref b13, .ref b14, .ref b15, .ref b16, .ref b17, .int i18, .int i19, .int i20, .ref b21, .ref b22, .ref b23, .ref b24, .ref b25, .ref b26, .int i27, .ref b28, .ref b29, .ref b30, .ref b31, .ref b32, .ref b33, .ref b34, .ref b35, .ref b36, .int i37, .int i38, .int i39, .int i40, .int i41, .int i42, .int i43, .int i44, .int i45, .ref b46, .ref b47, .ref b48, .ref b49, .ref b50, .ref b51, .ref b52, .ref b53, .ref b54, .ref b55, .ref b56, .ref b57, .ref b58, .ref b59, .ref b60, .ref b61, .ref b62, .ref b63])), (b59, .inl (g.2.1 2, 16, .inr (.inl (lf (stM 3 t))))), (b60, .inl (g.2.1 2, 16, .inr (.inl (lf (seL 3 (stM 3 t) (q + 1))))))] := hW.pick [1, 0, 2] rfl rfl
                                    exact ih4 (q + 1) (by omega) (by omega) _ _ _ hW (lv_sub hl [1, 2, 3, 4, 5, 0] rfl)
                            exact loop4 9 0 (by omega) (by omega) _ _ _ hW (lv_sub hl [1, 2, 3, 4, 5, 0] rfl)
                          · have hli : i < 16 := ge_f (k := 16) (by omega) (by omega) c36
                            refine lv_aload_n (pc := 90) hx hb dX12_ways_90 rfl (lv_at hl 0 rfl) ?_
                            refine r_get X hW 0 ciX12 60 rfl (by decide) m_1287 rfl rfl dX12_ways_91 ?_
                            refine lv_iload (pc := 94) hx hb dX12_ways_94 (lv_at hl 5 rfl) ?_
                            refine lv_lconst (v := 0) (pc := 96) hx hb dX12_ways_96 (by decide) ?_
                            obtain ⟨f45, ef45⟩ : ∃ fz : Nat → Int64, vp_updL (lf (cpL ln z16 i)) (nI i).toNatClampNeg 0 = fz := ⟨_, rfl⟩
                            refine r_last (ws' := [(h0, .inr (12, [.int 0, .ref b1, .int i2, .int i3, .int i4, .int i5, .ref b6, .ref b7, .ref b8, .ref b9, .ref b10, .ref b11, .ref b12, .ref b13, .ref b14, .ref b15, .ref b16, .ref b17, .int i18, .int i19, .int i20, .ref b21, .ref b22, .ref b23, .ref b24, .ref b25, .ref b26, .int i27, .ref b28, .ref b29, .ref b30, .ref b31, .ref b32, .ref b33, .ref b34, .ref b35, .ref b36, .int i37, .int i38, .int i39, .int i40, .int i41, .int i42, .int i43, .int i44, .int i45, .ref b46, .ref b47, .ref b48, .ref b49, .ref b50, .ref b51, .ref b52, .ref b53, .ref b54, .ref b55, .ref b56, .ref b57, .ref b58, .ref b59, .ref b60, .ref b61, .ref b62, .ref b63])), (b59, .inl (g.2.1 2, 16, .inr (.inl (lf (stM 3 t))))), (b60, .inl (g.2.1 2, 16, .inr (.inl f45)))]) X hW 2 rfl (vp_in_nI (by omega) (by decide)) ef45 rfl dX12_ways_97 (fun H locs hW => ?_)
                            refine lv_iinc (v := nI (i + 1)) (lv' := [(5, .int (nI (i + 1))), (0, .ref h0), (1, .int (nI 3)), (2, .int (nI h)), (3, .int (nI k)), (4, .int (nI t))]) (pc := 98) hx hb dX12_ways_98 hl (k := 5) rfl (nI_1 i) (by decide) rfl (fun ls hl => ?_)
                            refine lv_goto (tgt := 83) (pc := 101) hx hb dX12_ways_101 rfl ?_
                            obtain rfl : f45 = lf (cpL ln z16 (i + 1)) := ef45.symm.trans (by rw [nI_clamp (by omega), cpL, z16_at]; exact lf_set (by rw [cpL_len, hln]; omega))
                            exact ih3 (i + 1) (by omega) (by omega) _ _ _ hW (lv_sub hl [1, 2, 3, 4, 5, 0] rfl)
                      exact loop3 17 0 (by omega) (by omega) _ _ _ hW (lv_sub hl [1, 2, 3, 4, 5, 0] rfl)
                exact loop2 (h + 1) 0 ln0 (by omega) (by omega) hln0 _ _ _ hW (lv_sub hl [1, 2, 3, 4, 0] rfl)
              · have hlt : i < 16 := ge_f (k := 16) (by omega) (by omega) c28
                refine lv_aload_n (pc := 47) hx hb dX12_ways_47 rfl (lv_at hl 0 rfl) ?_
                refine r_get X hW 0 ciX12 59 rfl (by decide) m_1286 rfl rfl dX12_ways_48 ?_
                refine lv_iload (pc := 51) hx hb dX12_ways_51 (lv_at hl 4 rfl) ?_
                refine lv_iload (pc := 53) hx hb dX12_ways_53 (lv_at hl 4 rfl) ?_
                refine lv_iconst (v := 1) (pc := 55) hx hb dX12_ways_55 (by decide) ?_
                refine lv_icmp_ne (tgt := 63) (pc := 56) hx hb dX12_ways_56 rfl (fun c46 => ?_) (fun c46 => ?_)
                · have hi1 : ¬ i = 1 := fun q => c46 (congrArg nI q)
                  refine lv_lconst (v := 0) (pc := 63) hx hb dX12_ways_63 (by decide) ?_
                  obtain ⟨f47, ef47⟩ : ∃ fz : Nat → Int64, vp_updL (lf (cpL ly (m0L 16) i)) (nI i).toNatClampNeg 0 = fz := ⟨_, rfl⟩
                  refine r_last (ws' := [(h0, .inr (12, [.int 0, .ref b1, .int i2, .int i3, .int i4, .int i5, .ref b6, .ref b7, .ref b8, .ref b9, .ref b10, .ref b11, .ref b12, .ref b13, .ref b14, .ref b15, .ref b16, .ref b17, .int i18, .int i19, .int i20, .ref b21, .ref b22, .ref b23, .ref b24, .ref b25, .ref b26, .int i27, .ref b28, .ref b29, .ref b30, .ref b31, .ref b32, .ref b33, .ref b34, .ref b35, .ref b36, .int i37, .int i38, .int i39, .int i40, .int i41, .int i42, .int i43, .int i44, .int i45, .ref b46, .ref b47, .ref b48, .ref b49, .ref b50, .ref b51, .ref b52, .ref b53, .ref b54, .ref b55, .ref b56, .ref b57, .ref b58, .ref b59, .ref b60, .ref b61, .ref b62, .ref b63])), (b59, .inl (g.2.1 2, 16, .inr (.inl f47))), (b60, .inl (g.2.1 2, 16, .inr (.inl (lf ln0))))]) X hW 1 rfl (vp_in_nI (by omega) (by decide)) ef47 rfl dX12_ways_64 (fun H locs hW => ?_)
                  refine lv_iinc (v := nI (i + 1)) (lv' := [(4, .int (nI (i + 1))), (0, .ref h0), (1, .int (nI 3)), (2, .int (nI h)), (3, .int (nI k))]) (pc := 65) hx hb dX12_ways_65 hl (k := 4) rfl (nI_1 i) (by decide) rfl (fun ls hl => ?_)
                  refine lv_goto (tgt := 40) (pc := 68) hx hb dX12_ways_68 rfl ?_
                  obtain rfl : f47 = lf (cpL ly (m0L 16) (i + 1)) := ef47.symm.trans (by rw [nI_clamp (by omega), cpL, m0_at i hlt, if_neg hi1]; exact lf_set (by rw [cpL_len, hly]; omega))
                  exact ih1 (i + 1) (by omega) (by omega) _ _ _ hW (lv_sub hl [1, 2, 3, 4, 0] rfl)
                · have hi1 : i = 1 := (nI_eq (by omega) (by decide)).mp c46
                  refine lv_lconst (v := 1) (pc := 59) hx hb dX12_ways_59 (by decide) ?_
                  refine lv_goto (tgt := 64) (pc := 60) hx hb dX12_ways_60 rfl ?_
                  obtain ⟨f48, ef48⟩ : ∃ fz : Nat → Int64, vp_updL (lf (cpL ly (m0L 16) i)) (nI i).toNatClampNeg 1 = fz := ⟨_, rfl⟩
                  refine r_last (ws' := [(h0, .inr (12, [.int 0, .ref b1, .int i2, .int i3, .int i4, .int i5, .ref b6, .ref b7, .ref b8, .ref b9, .ref b10, .ref b11, .ref b12, .ref b13, .ref b14, .ref b15, .ref b16, .ref b17, .int i18, .int i19, .int i20, .ref b21, .ref b22, .ref b23, .ref b24, .ref b25, .ref b26, .int i27, .ref b28, .ref b29, .ref b30, .ref b31, .ref b32, .ref b33, .ref b34, .ref b35, .ref b36, .int i37, .int i38, .int i39, .int i40, .int i41, .int i42, .int i43, .int i44, .int i45, .ref b46, .ref b47, .ref b48, .ref b49, .ref b50, .ref b51, .ref b52, .ref b53, .ref b54, .ref b55, .ref b56, .ref b57, .ref b58, .ref b59, .ref b60, .ref b61, .ref b62, .ref b63])), (b59, .inl (g.2.1 2, 16, .inr (.inl f48))), (b60, .inl (g.2.1 2, 16, .inr (.inl (lf ln0))))]) X hW 1 rfl (vp_in_nI (by omega) (by decide)) ef48 rfl dX12_ways_64 (fun H locs hW => ?_)
                  refine lv_iinc (v := nI (i + 1)) (lv' := [(4, .int (nI (i + 1))), (0, .ref h0), (1, .int (nI 3)), (2, .int (nI h)), (3, .int (nI k))]) (pc := 65) hx hb dX12_ways_65 hl (k := 4) rfl (nI_1 i) (by decide) rfl (fun ls hl => ?_)
                  refine lv_goto (tgt := 40) (pc := 68) hx hb dX12_ways_68 rfl ?_
                  obtain rfl : f48 = lf (cpL ly (m0L 16) (i + 1)) := ef48.symm.trans (by rw [nI_clamp (by omega), cpL, m0_at i hlt, if_pos hi1]; exact lf_set (by rw [cpL_len, hly]; omega))
                  exact ih1 (i + 1) (by omega) (by omega) _ _ _ hW (lv_sub hl [1, 2, 3, 4, 0] rfl)
          exact loop1 17 0 (by omega) (by omega) _ _ _ hW (lv_sub hl [1, 2, 3, 4, 0] rfl)
        · refine lv_iconst (v := 0) (pc := 37) hx hb dX12_ways_37 (by decide) ?_
          refine lv_istore (lv' := [(4, .int 0), (0, .ref h0), (1, .int (nI 4)), (2, .int (nI h)), (3, .int (nI k))]) (pc := 38) hx hb dX12_ways_38 hl (by decide) rfl (fun ls hl => ?_)
          have loop1 : ∀ (fu : Nat) (i : Nat), (16 < fu + i) → (i ≤ 16) → ∀ (H : Heap) (locs : List Loc) (ls : Array Slot), WD g A s H locs [(h0, .inr (12, [.int 0, .ref b1, .int i2, .int i3, .int i4, .int i5, .ref b6, .ref b7, .ref b8, .ref b9, .ref b10, .ref b11, .ref b12, .ref b13, .ref b14, .ref b15, .ref b16, .ref b17, .int i18, .int i19, .int i20, .ref b21, .ref b22, .ref b23, .ref b24, .ref b25, .ref b26, .int i27, .ref b28, .ref b29, .ref b30, .ref b31, .ref b32, .ref b33, .ref b34, .ref b35, .ref b36, .int i37, .int i38, .int i39, .int i40, .int i41, .int i42, .int i43, .int i44, .int i45, .ref b46, .ref b47, .ref b48, .ref b49, .ref b50, .ref b51, .ref b52, .ref b53, .ref b54, .ref b55, .ref b56, .ref b57, .ref b58, .ref b59, .ref b60, .ref b61, .ref b62, .ref b63])), (b59, .inl (g.2.1 2, 16, .inr (.inl (lf (cpL ly (m0L 16) i))))), (b60, .inl (g.2.1 2, 16, .inr (.inl (lf ln0))))] → lv_has ls 7 [(0, .ref h0), (1, .int (nI 4)), (2, .int (nI h)), (3, .int (nI k)), (4, .int (nI i))] → W p l e (RM 5 0 0) s m args below meth c H locs 0 0 Q (F0 m 40 ls []) := by
            intro fu
            induction fu with
            | zero =>
              intro i hm hi
              exact absurd hm (by omega)
            | succ fu ih1 =>
              intro i hm hi H locs ls hW hl
              refine lv_iload (pc := 40) hx hb dX12_ways_40 (lv_at hl 4 rfl) ?_
              refine lv_bipush (v := 16) (pc := 42) hx hb dX12_ways_42 (by decide) ?_
              refine lv_icmp_ge (tgt := 71) (pc := 44) hx hb dX12_ways_44 rfl (fun c49 => ?_) (fun c49 => ?_)
              · have h16 : i = 16 := by have := ge_t (k := 16) (by omega) (by omega) c49; omega
                rw [h16, cpL_all hly (m0L_len 16)] at hW
                refine lv_iconst (v := 0) (pc := 71) hx hb dX12_ways_71 (by decide) ?_
                refine lv_istore (lv' := [(4, .int 0), (0, .ref h0), (1, .int (nI 4)), (2, .int (nI h)), (3, .int (nI k))]) (pc := 72) hx hb dX12_ways_72 hl (by decide) rfl (fun ls hl => ?_)
                have loop2 : ∀ (fv : Nat) (t : Nat) (ln : List Int64), (h < fv + t) → (t ≤ h) → (ln.length = 16) → ∀ (H : Heap) (locs : List Loc) (ls : Array Slot), WD g A s H locs [(h0, .inr (12, [.int 0, .ref b1, .int i2, .int i3, .int i4, .int i5, .ref b6, .ref b7, .ref b8, .ref b9, .ref b10, .ref b11, .ref b12, .ref b13, .ref b14, .ref b15, .ref b16, .ref b17, .int i18, .int i19, .int i20, .ref b21, .ref b22, .ref b23, .ref b24, .ref b25, .ref b26, .int i27, .ref b28, .ref b29, .ref b30, .ref b31, .ref b32, .ref b33, .ref b34, .ref b35, .ref b36, .int i37, .int i38, .int i39, .int i40, .int i41, .int i42, .int i43, .int i44, .int i45, .ref b46, .ref b47, .ref b48, .ref b49, .ref b50, .ref b51, .ref b52, .ref b53, .ref b54, .ref b55, .ref b56, .ref b57, .ref b58, .ref b59, .ref b60, .ref b61, .ref b62, .ref b63])), (b59, .inl (g.2.1 2, 16, .inr (.inl (lf (stM 4 t))))), (b60, .inl (g.2.1 2, 16, .inr (.inl (lf (ln)))))] → lv_has ls 7 [(0, .ref h0), (1, .int (nI 4)), (2, .int (nI h)), (3, .int (nI k)), (4, .int (nI t))] → W p l e (RM 5 0 0) s m args below meth c H locs 0 0 Q (F0 m 74 ls []) := by
                  intro fv
                  induction fv with
                  | zero =>
                    intro t ln hm2 ht hln
                    exact absurd hm2 (by omega)
                  | succ fv ih2 =>
                    intro t ln hm2 ht hln H locs ls hW hl
                    refine lv_iload (pc := 74) hx hb dX12_ways_74 (lv_at hl 4 rfl) ?_
                    refine lv_iload_n (pc := 76) hx hb dX12_ways_76 rfl (lv_at hl 2 rfl) ?_
                    refine lv_icmp_ge (tgt := 185) (pc := 77) hx hb dX12_ways_77 rfl (fun c50 => ?_) (fun c50 => ?_)
                    · have hth : t = h := by have := ge_t (k := h) (by omega) (by omega) c50; omega
                      rw [hth] at hW
                      refine lv_lconst (v := 0) (pc := 185) hx hb dX12_ways_185 (by decide) ?_
                      refine lv_lstore (lv' := [(4, .long 0), (0, .ref h0), (1, .int (nI 4)), (2, .int (nI h)), (3, .int (nI k))]) (pc := 186) hx hb dX12_ways_186 hl (by decide) rfl (fun ls hl => ?_)
                      refine lv_iconst (v := 0) (pc := 188) hx hb dX12_ways_188 (by decide) ?_
                      refine lv_istore (lv' := [(6, .int 0), (4, .long 0), (0, .ref h0), (1, .int (nI 4)), (2, .int (nI h)), (3, .int (nI k))]) (pc := 189) hx hb dX12_ways_189 hl (by decide) rfl (fun ls hl => ?_)
                      have loop6 : ∀ (fx : Nat) (i : Nat), (16 < fx + i) → (i ≤ 16) → ∀ (H : Heap) (locs : List Loc) (ls : Array Slot), WD g A s H locs [(h0, .inr (12, [.int 0, .ref b1, .int i2, .int i3, .int i4, .int i5, .ref b6, .ref b7, .ref b8, .ref b9, .ref b10, .ref b11, .ref b12, .ref b13, .ref b14, .ref b15, .ref b16, .ref b17, .int i18, .int i19, .int i20, .ref b21, .ref b22, .ref b23, .ref b24, .ref b25, .ref b26, .int i27, .ref b28, .ref b29, .ref b30, .ref b31, .ref b32, .ref b33, .ref b34, .ref b35, .ref b36, .int i37, .int i38, .int i39, .int i40, .int i41, .int i42, .int i43, .int i44, .int i45, .ref b46, .ref b47, .ref b48, .ref b49, .ref b50, .ref b51, .ref b52, .ref b53, .ref b54, .ref b55, .ref b56, .ref b57, .ref b58, .ref b59, .ref b60, .ref b61, .ref b62, .ref b63])), (b59, .inl (g.2.1 2, 16, .inr (.inl (lf (stM 4 h))))), (b60, .inl (g.2.1 2, 16, .inr (.inl (lf (ln)))))] → lv_has ls 7 [(0, .ref h0), (1, .int (nI 4)), (2, .int (nI h)), (3, .int (nI k)), (4, .long (smM (stM 4 h) k i)), (6, .int (nI i))] → W p l e (RM 5 0 0) s m args below meth c H locs 0 0 Q (F0 m 191 ls []) := by
                        intro fx
                        induction fx with
                        | zero =>
                          intro i hm6 hi
                          exact absurd hm6 (by omega)
                        | succ fx ih6 =>
                          intro i hm6 hi H locs ls hW hl
                          refine lv_iload (pc := 191) hx hb dX12_ways_191 (lv_at hl 5 rfl) ?_
                          refine lv_bipush (v := 16) (pc := 193) hx hb dX12_ways_193 (by decide) ?_
                          refine lv_icmp_ge (tgt := 229) (pc := 195) hx hb dX12_ways_195 rfl (fun c51 => ?_) (fun c51 => ?_)
                          · have h16 : i = 16 := by have := ge_t (k := 16) (by omega) (by omega) c51; omega
                            refine lv_lload (pc := 229) hx hb dX12_ways_229 (lv_at hl 4 rfl) ?_
                            exact e_l X hQ hr hW (u := [(h0, .inr (12, [.int 0, .ref b1, .int i2, .int i3, .int i4, .int i5, .ref b6, .ref b7, .ref b8, .ref b9, .ref b10, .ref b11, .ref b12, .ref b13, .ref b14, .ref b15, .ref b16, .ref b17, .int i18, .int i19, .int i20, .ref b21, .ref b22, .ref b23, .ref b24, .ref b25, .ref b26, .int i27, .ref b28, .ref b29, .ref b30, .ref b31, .ref b32, .ref b33, .ref b34, .ref b35, .ref b36, .int i37, .int i38, .int i39, .int i40, .int i41, .int i42, .int i43, .int i44, .int i45, .ref b46, .ref b47, .ref b48, .ref b49, .ref b50, .ref b51, .ref b52, .ref b53, .ref b54, .ref b55, .ref b56, .ref b57, .ref b58, .ref b59, .ref b60, .ref b61, .ref b62, .ref b63])), (b59, .inl (g.2.1 2, 16, .inr (.inl (lf (stM 4 h))))), (b60, .inl (g.2.1 2, 16, .inr (.inl (lf (ln)))))]) [0, 1, 2] rfl rfl (⟨by rw [h16, hwv]; exact fin_w (by decide) (by decide) hh1 hh hk1 hk, _, _, rfl⟩) ⟨Nat.le_of_ble_eq_true rfl, Nat.le_of_ble_eq_true rfl⟩ dX12_ways_231
                          · have hli : i < 16 := ge_f (k := 16) (by omega) (by omega) c51
                            have hp4 := pop4_le i hli
                            refine lv_lload (pc := 198) hx hb dX12_ways_198 (lv_at hl 4 rfl) ?_
                            refine lv_iload (pc := 200) hx hb dX12_ways_200 (lv_at hl 5 rfl) ?_
                            refine c_Si (pc := 202) (As := [.int (nI i)]) (rest := [.long (smM (stM 4 h) k i)]) (wr := [(h0, .inr (12, [.int 0, .ref b1, .int i2, .int i3, .int i4, .int i5, .ref b6, .ref b7, .ref b8, .ref b9, .ref b10, .ref b11, .ref b12, .ref b13, .ref b14, .ref b15, .ref b16, .ref b17, .int i18, .int i19, .int i20, .ref b21, .ref b22, .ref b23, .ref b24, .ref b25, .ref b26, .int i27, .ref b28, .ref b29, .ref b30, .ref b31, .ref b32, .ref b33, .ref b34, .ref b35, .ref b36, .int i37, .int i38, .int i39, .int i40, .int i41, .int i42, .int i43, .int i44, .int i45, .ref b46, .ref b47, .ref b48, .ref b49, .ref b50, .ref b51, .ref b52, .ref b53, .ref b54, .ref b55, .ref b56, .ref b57, .ref b58, .ref b59, .ref b60, .ref b61, .ref b62, .ref b63])), (b59, .inl (g.2.1 2, 16, .inr (.inl (lf (stM 4 h))))), (b60, .inl (g.2.1 2, 16, .inr (.inl (lf (ln)))))]) X hW (C_J6_bitCount_0f7a4 l g (nI i)) vX12_334 [] [0, 1, 2] rfl rfl rfl rfl rfl rfl hl.1 rfl (Nat.le_of_ble_eq_true rfl) ⟨Nat.le_of_ble_eq_true rfl, Nat.le_of_ble_eq_true rfl⟩ ⟨Nat.le_of_ble_eq_true rfl, Nat.le_of_ble_eq_true rfl⟩ dX12_ways_202 (fun r52 u9 H locs hq hW => ?_)
                            obtain ⟨hr9, rfl⟩ := hq
                            obtain rfl : r52 = nI (pop4 i) := hr9.trans (bc_n _ (by omega))
                            have hW : WD g A s _ _ [(h0, .inr (12, [.int 0, .ref b1, .int i2, .int i3, .int i4, .int i5, .ref b6, .ref b7, .ref b8, .ref b9, .ref b10, .ref b11, .ref b12, .ref b13, .ref b14, .ref b15, .ref b16, .ref b17, .int i18, .int i19, .int i20, .ref b21, .ref b22, .ref b23, .ref b24, .ref b25, .ref b26, .int i27, .ref b28, .ref b29, .ref b30, .ref b31, .ref b32, .ref b33, .ref b34, .ref b35, .ref b36, .int i37, .int i38, .int i39, .int i40, .int i41, .int i42, .int i43, .int i44, .int i45, .ref b46, .ref b47, .ref b48, .ref b49, .ref b50, .ref b51, .ref b52, .ref b53, .ref b54, .ref b55, .ref b56, .ref b57, .ref b58, .ref b59, .ref b60, .ref b61, .ref b62, .ref b63])), (b59, .inl (g.2.1 2, 16, .inr (.inl (lf (stM 4 h))))), (b60, .inl (g.2.1 2, 16, .inr (.inl (lf (ln)))))] := hW
                            refine lv_iload_n (pc := 205) hx hb dX12_ways_205 rfl (lv_at hl 3 rfl) ?_
                            refine lv_icmp_ne (tgt := 219) (pc := 206) hx hb dX12_ways_206 rfl (fun c53 => ?_) (fun c53 => ?_)
                            · have hpk : ¬ pop4 i = k := fun q => c53 (congrArg nI q)
                              refine lv_lconst (v := 0) (pc := 219) hx hb dX12_ways_219 (by decide) ?_
                              refine lv_ladd (pc := 220) hx hb dX12_ways_220 ?_
                              refine lv_topl (fun v54 ev54 => ?_)
                              obtain rfl : v54 = smM (stM 4 h) k (i + 1) := ev54.trans (by rw [smM, if_neg hpk])
                              refine lv_lstore (lv' := [(4, .long (smM (stM 4 h) k (i + 1))), (0, .ref h0), (1, .int (nI 4)), (2, .int (nI h)), (3, .int (nI k)), (6, .int (nI i))]) (pc := 221) hx hb dX12_ways_221 hl (by decide) rfl (fun ls hl => ?_)
                              refine lv_iinc (v := nI (i + 1)) (lv' := [(6, .int (nI (i + 1))), (4, .long (smM (stM 4 h) k (i + 1))), (0, .ref h0), (1, .int (nI 4)), (2, .int (nI h)), (3, .int (nI k))]) (pc := 223) hx hb dX12_ways_223 hl (k := 5) rfl (nI_1 i) (by decide) rfl (fun ls hl => ?_)
                              refine lv_goto (tgt := 191) (pc := 226) hx hb dX12_ways_226 rfl ?_
                              exact ih6 (i + 1) (by omega) (by omega) _ _ _ hW (lv_sub hl [2, 3, 4, 5, 1, 0] rfl)
                            · have hpk : pop4 i = k := (nI_eq (by omega) (by omega)).mp c53
                              refine lv_aload_n (pc := 209) hx hb dX12_ways_209 rfl (lv_at hl 0 rfl) ?_
                              refine r_get X hW 0 ciX12 59 rfl (by decide) m_1286 rfl rfl dX12_ways_210 ?_
                              refine lv_iload (pc := 213) hx hb dX12_ways_213 (lv_at hl 5 rfl) ?_
                              refine r_lald X hW 1 rfl (vp_in_nI (by omega) (by decide)) dX12_ways_215 ?_
                              refine lv_topl (fun v55 ev55 => ?_)
                              obtain rfl : v55 = (stM 4 h).getD i 0 := ev55.trans (by rw [nI_clamp (by omega)])
                              refine lv_goto (tgt := 220) (pc := 216) hx hb dX12_ways_216 rfl ?_
                              refine lv_ladd (pc := 220) hx hb dX12_ways_220 ?_
                              refine lv_topl (fun v56 ev56 => ?_)
                              obtain rfl : v56 = smM (stM 4 h) k (i + 1) := ev56.trans (by rw [smM, if_pos hpk])
                              refine lv_lstore (lv' := [(4, .long (smM (stM 4 h) k (i + 1))), (0, .ref h0), (1, .int (nI 4)), (2, .int (nI h)), (3, .int (nI k)), (6, .int (nI i))]) (pc := 221) hx hb dX12_ways_221 hl (by decide) rfl (fun ls hl => ?_)
                              refine lv_iinc (v := nI (i + 1)) (lv' := [(6, .int (nI (i + 1))), (4, .long (smM (stM 4 h) k (i + 1))), (0, .ref h0), (1, .int (nI 4)), (2, .int (nI h)), (3, .int (nI k))]) (pc := 223) hx hb dX12_ways_223 hl (k := 5) rfl (nI_1 i) (by decide) rfl (fun ls hl => ?_)
                              refine lv_goto (tgt := 191) (pc := 226) hx hb dX12_ways_226 rfl ?_
                              exact ih6 (i + 1) (by omega) (by omega) _ _ _ hW (lv_sub hl [2, 3, 4, 5, 1, 0] rfl)
                      exact loop6 17 0 (by omega) (by omega) _ _ _ hW (lv_sub hl [2, 3, 4, 5, 1, 0] rfl)
                    · have hlt : t < h := ge_f (k := h) (by omega) (by omega) c50
                      refine lv_iconst (v := 0) (pc := 80) hx hb dX12_ways_80 (by decide) ?_
                      refine lv_istore (lv' := [(5, .int 0), (0, .ref h0), (1, .int (nI 4)), (2, .int (nI h)), (3, .int (nI k)), (4, .int (nI t))]) (pc := 81) hx hb dX12_ways_81 hl (by decide) rfl (fun ls hl => ?_)
                      have loop3 : ∀ (fx : Nat) (i : Nat), (16 < fx + i) → (i ≤ 16) → ∀ (H : Heap) (locs : List Loc) (ls : Array Slot), WD g A s H locs [(h0, .inr (12, [.int 0, .ref b1, .int i2, .int i3, .int i4, .int i5, .ref b6, .ref b7, .ref b8, .ref b9, .ref b10, .ref b11, .ref b12, .ref b13, .ref b14, .ref b15, .ref b16, .ref b17, .int i18, .int i19, .int i20, .ref b21, .ref b22, .ref b23, .ref b24, .ref b25, .ref b26, .int i27, .ref b28, .ref b29, .ref b30, .ref b31, .ref b32, .ref b33, .ref b34, .ref b35, .ref b36, .int i37, .int i38, .int i39, .int i40, .int i41, .int i42, .int i43, .int i44, .int i45, .ref b46, .ref b47, .ref b48, .ref b49, .ref b50, .ref b51, .ref b52, .ref b53, .ref b54, .ref b55, .ref b56, .ref b57, .ref b58, .ref b59, .ref b60, .ref b61, .ref b62, .ref b63])), (b59, .inl (g.2.1 2, 16, .inr (.inl (lf (stM 4 t))))), (b60, .inl (g.2.1 2, 16, .inr (.inl (lf (cpL ln z16 i)))))] → lv_has ls 7 [(0, .ref h0), (1, .int (nI 4)), (2, .int (nI h)), (3, .int (nI k)), (4, .int (nI t)), (5, .int (nI i))] → W p l e (RM 5 0 0) s m args below meth c H locs 0 0 Q (F0 m 83 ls []) := by
                        intro fx
                        induction fx with
                        | zero =>
                          intro i hm3 hi
                          exact absurd hm3 (by omega)
                        | succ fx ih3 =>
                          intro i hm3 hi H locs ls hW hl
                          refine lv_iload (pc := 83) hx hb dX12_ways_83 (lv_at hl 5 rfl) ?_
                          refine lv_bipush (v := 16) (pc := 85) hx hb dX12_ways_85 (by decide) ?_
                          refine lv_icmp_ge (tgt := 104) (pc := 87) hx hb dX12_ways_87 rfl (fun c57 => ?_) (fun c57 => ?_)
                          · have h16 : i = 16 := by have := ge_t (k := 16) (by omega) (by omega) c57; omega
                            rw [h16, cpL_all hln rfl] at hW
                            refine lv_iconst (v := 0) (pc := 104) hx hb dX12_ways_104 (by decide) ?_
                            refine lv_istore (lv' := [(5, .int 0), (0, .ref h0), (1, .int (nI 4)), (2, .int (nI h)), (3, .int (nI k)), (4, .int (nI t))]) (pc := 105) hx hb dX12_ways_105 hl (by decide) rfl (fun ls hl => ?_)
                            have loop4 : ∀ (fx : Nat) (q : Nat), (16 < fx + q) → (q ≤ 16) → ∀ (H : Heap) (locs : List Loc) (ls : Array Slot), WD g A s H locs [(h0, .inr (12, [.int 0, .ref b1, .int i2, .int i3, .int i4, .int i5, .ref b6, .ref b7, .ref b8, .ref b9, .ref b10, .ref b11, .ref b12, .ref b13, .ref b14, .ref b15, .ref b16, .ref b17, .int i18, .int i19, .int i20, .ref b21, .ref b22, .ref b23, .ref b24, .ref b25, .ref b26, .int i27, .ref b28, .ref b29, .ref b30, .ref b31, .ref b32, .ref b33, .ref b34, .ref b35, .ref b36, .int i37, .int i38, .int i39, .int i40, .int i41, .int i42, .int i43, .int i44, .int i45, .ref b46, .ref b47, .ref b48, .ref b49, .ref b50, .ref b51, .ref b52, .ref b53, .ref b54, .ref b55, .ref b56, .ref b57, .ref b58, .ref b59, .ref b60, .ref b61, .ref b62, .ref b63])), (b59, .inl (g.2.1 2, 16, .inr (.inl (lf (stM 4 t))))), (b60, .inl (g.2.1 2, 16, .inr (.inl (lf (seL 4 (stM 4 t) q)))))] → lv_has ls 7 [(0, .ref h0), (1, .int (nI 4)), (2, .int (nI h)), (3, .int (nI k)), (4, .int (nI t)), (5, .int (nI q))] → W p l e (RM 5 0 0) s m args below meth c H locs 0 0 Q (F0 m 107 ls []) := by
                              intro fx
                              induction fx with
                              | zero =>
                                intro q hm4 hq
                                exact absurd hm4 (by omega)
                              | succ fx ih4 =>
                                intro q hm4 hq H locs ls hW hl
                                refine lv_iload (pc := 107) hx hb dX12_ways_107 (lv_at hl 5 rfl) ?_
                                refine lv_iconst (v := 1) (pc := 109) hx hb dX12_ways_109 (by decide) ?_
                                refine lv_iload_n (pc := 110) hx hb dX12_ways_110 rfl (lv_at hl 1 rfl) ?_
                                refine lv_ishl (pc := 111) hx hb dX12_ways_111 ?_
                                refine lv_topi (fun v58 ev58 => ?_)
                                obtain rfl : v58 = nI 16 := ev58.trans (by decide +kernel)
                                refine lv_icmp_ge (tgt := 149) (pc := 112) hx hb dX12_ways_112 rfl (fun c59 => ?_) (fun c59 => ?_)
                                · have hqe : q = 16 := by have := ge_t (k := 16) (by omega) (by omega) c59; omega
                                  rw [hqe] at hW
                                  have hW : WD g A s _ _ [(h0, .inr (12, [.int 0, .ref b1, .int i2, .int i3, .int i4, .int i5, .ref b6, .ref b7, .ref b8, .ref b9, .ref b10, .ref b11, .ref b12, .ref b13, .ref b14, .ref b15, .ref b16, .ref b17, .int i18, .int i19, .int i20, .ref b21, .ref b22, .ref b23, .ref b24, .ref b25, .ref b26, .int i27, .ref b28, .ref b29, .ref b30, .ref b31, .ref b32, .ref b33, .ref b34, .ref b35, .ref b36, .int i37, .int i38, .int i39, .int i40, .int i41, .int i42, .int i43, .int i44, .int i45, .ref b46, .ref b47, .ref b48, .ref b49, .ref b50, .ref b51, .ref b52, .ref b53, .ref b54, .ref b55, .ref b56, .ref b57, .ref b58, .ref b59, .ref b60, .ref b61, .ref b62, .ref b63])), (b59, .inl (g.2.1 2, 16, .inr (.inl (lf (stM 4 t))))), (b60, .inl (g.2.1 2, 16, .inr (.inl (lf (stM 4 (t + 1))))))] := hW
                                  refine lv_iconst (v := 0) (pc := 149) hx hb dX12_ways_149 (by decide) ?_
                                  refine lv_istore (lv' := [(5, .int 0), (0, .ref h0), (1, .int (nI 4)), (2, .int (nI h)), (3, .int (nI k)), (4, .int (nI t))]) (pc := 150) hx hb dX12_ways_150 hl (by decide) rfl (fun ls hl => ?_)
                                  have loop5 : ∀ (fx : Nat) (i : Nat), (16 < fx + i) → (i ≤ 16) → ∀ (H : Heap) (locs : List Loc) (ls : Array Slot), WD g A s H locs [(h0, .inr (12, [.int 0, .ref b1, .int i2, .int i3, .int i4, .int i5, .ref b6, .ref b7, .ref b8, .ref b9, .ref b10, .ref b11, .ref b12, .ref b13, .ref b14, .ref b15, .ref b16, .ref b17, .int i18, .int i19, .int i20, .ref b21, .ref b22, .ref b23, .ref b24, .ref b25, .ref b26, .int i27, .ref b28, .ref b29, .ref b30, .ref b31, .ref b32, .ref b33, .ref b34, .ref b35, .ref b36, .int i37, .int i38, .int i39, .int i40, .int i41, .int i42, .int i43, .int i44, .int i45, .ref b46, .ref b47, .ref b48, .ref b49, .ref b50, .ref b51, .ref b52, .ref b53, .ref b54, .ref b55, .ref b56, .ref b57, .ref b58, .ref b59, .ref b60, .ref b61, .ref b62, .ref b63])), (b59, .inl (g.2.1 2, 16, .inr (.inl (lf (cpL (stM 4 t) (stM 4 (t + 1)) i))))), (b60, .inl (g.2.1 2, 16, .inr (.inl (lf (stM 4 (t + 1))))))] → lv_has ls 7 [(0, .ref h0), (1, .int (nI 4)), (2, .int (nI h)), (3, .int (nI k)), (4, .int (nI t)), (5, .int (nI i))] → W p l e (RM 5 0 0) s m args below meth c H locs 0 0 Q (F0 m 152 ls []) := by
                                    intro fx
                                    induction fx with
                                    | zero =>
                                      intro i hm5 hi
                                      exact absurd hm5 (by omega)
                                    | succ fx ih5 =>
                                      intro i hm5 hi H locs ls hW hl
                                      refine lv_iload (pc := 152) hx hb dX12_ways_152 (lv_at hl 5 rfl) ?_
                                      refine lv_bipush (v := 16) (pc := 154) hx hb dX12_ways_154 (by decide) ?_
                                      refine lv_icmp_ge (tgt := 179) (pc := 156) hx hb dX12_ways_156 rfl (fun c60 => ?_) (fun c60 => ?_)
                                      · have h16 : i = 16 := by have := ge_t (k := 16) (by omega) (by omega) c60; omega
                                        rw [h16, cpL_all (stM_len _ _) (stM_len _ _)] at hW
                                        refine lv_iinc (v := nI (t + 1)) (lv' := [(4, .int (nI (t + 1))), (0, .ref h0), (1, .int (nI 4)), (2, .int (nI h)), (3, .int (nI k)), (5, .int (nI i))]) (pc := 179) hx hb dX12_ways_179 hl (k := 4) rfl (nI_1 t) (by decide) rfl (fun ls hl => ?_)
                                        refine lv_goto (tgt := 74) (pc := 182) hx hb dX12_ways_182 rfl ?_
                                        exact ih2 (t + 1) (stM 4 (t + 1)) (by omega) (by omega) (stM_len _ _) _ _ _ hW (lv_sub hl [1, 2, 3, 4, 0] rfl)
                                      · have hli : i < 16 := ge_f (k := 16) (by omega) (by omega) c60
                                        refine lv_aload_n (pc := 159) hx hb dX12_ways_159 rfl (lv_at hl 0 rfl) ?_
                                        refine r_get X hW 0 ciX12 59 rfl (by decide) m_1286 rfl rfl dX12_ways_160 ?_
                                        refine lv_iload (pc := 163) hx hb dX12_ways_163 (lv_at hl 5 rfl) ?_
                                        refine lv_aload_n (pc := 165) hx hb dX12_ways_165 rfl (lv_at hl 0 rfl) ?_
                                        refine r_get X hW 0 ciX12 60 rfl (by decide) m_1287 rfl rfl dX12_ways_166 ?_
                                        refine lv_iload (pc := 169) hx hb dX12_ways_169 (lv_at hl 5 rfl) ?_
                                        refine r_lald X hW 2 rfl (vp_in_nI (by omega) (by decide)) dX12_ways_171 ?_
                                        refine lv_topl (fun v61 ev61 => ?_)
                                        obtain rfl : v61 = (stM 4 (t + 1)).getD i 0 := ev61.trans (by rw [nI_clamp (by omega)])
                                        obtain ⟨f62, ef62⟩ : ∃ fz : Nat → Int64, vp_updL (lf (cpL (stM 4 t) (stM 4 (t + 1)) i)) (nI i).toNatClampNeg ((stM 4 (t + 1)).getD i 0) = fz := ⟨_, rfl⟩
                                        refine r_last (ws' := [(h0, .inr (12, [.int 0, .ref b1, .int i2, .int i3, .int i4, .int i5, .ref b6, .ref b7, .ref b8, .ref b9, .ref b10, .ref b11, .ref b12, .ref b13, .ref b14, .ref b15, .ref b16, .ref b17, .int i18, .int i19, .int i20, .ref b21, .ref b22, .ref b23, .ref b24, .ref b25, .ref b26, .int i27, .ref b28, .ref b29, .ref b30, .ref b31, .ref b32, .ref b33, .ref b34, .ref b35, .ref b36, .int i37, .int i38, .int i39, .int i40, .int i41, .int i42, .int i43, .int i44, .int i45, .ref b46, .ref b47, .ref b48, .ref b49, .ref b50, .ref b51, .ref b52, .ref b53, .ref b54, .ref b55, .ref b56, .ref b57, .ref b58, .ref b59, .ref b60, .ref b61, .ref b62, .ref b63])), (b59, .inl (g.2.1 2, 16, .inr (.inl f62))), (b60, .inl (g.2.1 2, 16, .inr (.inl (lf (stM 4 (t + 1))))))]) X hW 1 rfl (vp_in_nI (by omega) (by decide)) ef62 rfl dX12_ways_172 (fun H locs hW => ?_)
                                        refine lv_iinc (v := nI (i + 1)) (lv' := [(5, .int (nI (i + 1))), (0, .ref h0), (1, .int (nI 4)), (2, .int (nI h)), (3, .int (nI k)), (4, .int (nI t))]) (pc := 173) hx hb dX12_ways_173 hl (k := 5) rfl (nI_1 i) (by decide) rfl (fun ls hl => ?_)
                                        refine lv_goto (tgt := 152) (pc := 176) hx hb dX12_ways_176 rfl ?_
                                        obtain rfl : f62 = lf (cpL (stM 4 t) (stM 4 (t + 1)) (i + 1)) := ef62.symm.trans (by rw [nI_clamp (by omega)]; exact lf_set (by rw [cpL_len, stM_len]; omega))
                                        exact ih5 (i + 1) (by omega) (by omega) _ _ _ hW (lv_sub hl [1, 2, 3, 4, 5, 0] rfl)
                                  exact loop5 17 0 (by omega) (by omega) _ _ _ hW (lv_sub hl [1, 2, 3, 4, 5, 0] rfl)
                                · have hlq : q < 16 := ge_f (k := 16) (by omega) (by omega) c59
                                  refine lv_aload_n (pc := 115) hx hb dX12_ways_115 rfl (lv_at hl 0 rfl) ?_
                                  refine r_get X hW 0 ciX12 59 rfl (by decide) m_1286 rfl rfl dX12_ways_116 ?_
                                  refine lv_iload (pc := 119) hx hb dX12_ways_119 (lv_at hl 5 rfl) ?_
                                  refine r_lald X hW 1 rfl (vp_in_nI (by omega) (by decide)) dX12_ways_121 ?_
                                  refine lv_topl (fun v63 ev63 => ?_)
                                  obtain rfl : v63 = (stM 4 t).getD q 0 := ev63.trans (by rw [nI_clamp (by omega)])
                                  refine lv_lconst (v := 0) (pc := 122) hx hb dX12_ways_122 (by decide) ?_
                                  refine W.lcmp (pc := 123) hx hb dX12_ways_123 ?_
                                  refine lv_if_le (tgt := 143) (pc := 124) hx hb dX12_ways_124 rfl (fun c64 => ?_) (fun c64 => ?_)
                                  · have hpos := (lg_cmp_le _ _).mp c64
                                    rw [show lf (seL 4 (stM 4 t) q) = lf (seL 4 (stM 4 t) (q + 1)) from congrArg lf (if_pos hpos).symm] at hW
                                    refine lv_iinc (v := nI (q + 1)) (lv' := [(5, .int (nI (q + 1))), (0, .ref h0), (1, .int (nI 4)), (2, .int (nI h)), (3, .int (nI k)), (4, .int (nI t))]) (pc := 143) hx hb dX12_ways_143 hl (k := 5) rfl (nI_1 q) (by decide) rfl (fun ls hl => ?_)
                                    refine lv_goto (tgt := 107) (pc := 146) hx hb dX12_ways_146 rfl ?_
                                    exact ih4 (q + 1) (by omega) (by omega) _ _ _ hW (lv_sub hl [1, 2, 3, 4, 5, 0] rfl)
                                  · have hpos := fun z => c64 ((lg_cmp_le _ _).mpr z)
                                    refine lv_aload_n (pc := 127) hx hb dX12_ways_127 rfl (lv_at hl 0 rfl) ?_
                                    refine lv_iload_n (pc := 128) hx hb dX12_ways_128 rfl (lv_at hl 1 rfl) ?_
                                    refine lv_iload (pc := 129) hx hb dX12_ways_129 (lv_at hl 5 rfl) ?_
                                    refine lv_iconst (v := 0) (pc := 131) hx hb dX12_ways_131 (by decide) ?_
                                    refine lv_iconst (v := 0) (pc := 132) hx hb dX12_ways_132 (by decide) ?_
                                    refine lv_aload_n (pc := 133) hx hb dX12_ways_133 rfl (lv_at hl 0 rfl) ?_
                                    refine r_get X hW 0 ciX12 59 rfl (by decide) m_1286 rfl rfl dX12_ways_134 ?_
                                    refine lv_iload (pc := 137) hx hb dX12_ways_137 (lv_at hl 5 rfl) ?_
                                    refine r_lald X hW 1 rfl (vp_in_nI (by omega) (by decide)) dX12_ways_139 ?_
                                    refine lv_topl (fun v65 ev65 => ?_)
                                    obtain rfl : v65 = (stM 4 t).getD q 0 := ev65.trans (by rw [nI_clamp (by omega)])
                                    refine c_Vv (pc := 140) (As := [.int (nI 4), .int (nI q), .int 0, .int 0, .long ((stM 4 t).getD q 0)]) (rest := []) (wr := [(b59, .inl (g.2.1 2, 16, .inr (.inl (lf (stM 4 t)))))]) X hW 0 ciX12 rfl (C_chooseG_4 l g h0 b1 b6 b7 b8 b9 b10 b11 b12 b13 b14 b15 b16 b17 b21 b22 b23 b24 b25 b26 b28 b29 b30 b31 b32 b33 b34 b35 b36 b46 b47 b48 b49 b50 b51 b52 b53 b54 b55 b56 b57 b58 b59 b60 b61 b62 b63 0 i2 i3 i4 i5 i18 i19 i20 i27 i37 i38 i39 i40 i41 i42 i43 i44 i45 4 q 0 0 ((stM 4 t).getD q 0) (seL 4 (stM 4 t) q) (by decide) (by omega) (by decide) (seL_len _ _ _) (by decide)) vX12_388 [0, 2] [1] rfl rfl rfl rfl rfl rfl hl.1 rfl (Nat.le_of_ble_eq_true rfl) ⟨Nat.le_of_ble_eq_true rfl, Nat.le_of_ble_eq_true rfl⟩ ⟨Nat.le_of_ble_eq_true rfl, Nat.le_of_ble_eq_true rfl⟩ dX12_ways_140 (fun u9 H locs hq hW => ?_)
                                    obtain rfl := hq
                                    have hW : WD g A s _ _ [(b59, .inl (g.2.1 2, 16, .inr (.inl (lf (stM 4 t))))), (h0, .inr (12, [.int 0, .ref b1, .int i2, .int i3, .int i4, .int i5, .ref b6, .ref b7, .ref b8, .ref b9, .ref b10, .ref b11, .ref b12, .ref b13, .ref b14, .ref b15, .ref b16, .ref b17, .int i18, .int i19, .int i20, .ref b21, .ref b22, .ref b23, .ref b24, .ref b25, .ref b26, .int i27, .ref b28, .ref b29, .ref b30, .ref b31, .ref b32, .ref b33, .ref b34, .ref b35, .ref b36, .int i37, .int i38, .int i39, .int i40, .int i41, .int i42, .int i43, .int i44, .int i45, .ref b46, .ref b47, .ref b48, .ref b49, .ref b50, .ref b51, .ref b52, .ref b53, .ref b54, .ref b55, .ref b56, .ref b57, .ref b58, .ref b59, .ref b60, .ref b61, .ref b62, .ref b63])), (b60, .inl (g.2.1 2, 16, .inr (.inl (lf (chL 4 q ((stM 4 t).getD q 0) 4 0 0 (seL 4 (stM 4 t) q))))))] := hW
                                    rw [show lf (chL 4 q ((stM 4 t).getD q 0) 4 0 0 (seL 4 (stM 4 t) q)) = lf (seL 4 (stM 4 t) (q + 1)) from congrArg lf (if_neg hpos).symm] at hW
                                    refine lv_iinc (v := nI (q + 1)) (lv' := [(5, .int (nI (q + 1))), (0, .ref h0), (1, .int (nI 4)), (2, .int (nI h)), (3, .int (nI k)), (4, .int (nI t))]) (pc := 143) hx hb dX12_ways_143 hl (k := 5) rfl (nI_1 q) (by decide) rfl (fun ls hl => ?_)
                                    refine lv_goto (tgt := 107) (pc := 146) hx hb dX12_ways_146 rfl ?_
                                    have hW : WD g A s _ _ [(h0, .inr (12, [.int 0, .ref b1, .int i2, .int i3, .int i4, .int i5, .ref b6, .ref b7, .ref b8, .ref b9, .ref b10, .ref b11, .ref b12, .ref b13, .ref b14, .ref b15, .ref b16, .ref b17, .int i18, .int i19, .int i20, .ref b21, .ref b22, .ref b23, .ref b24, .ref b25, .ref b26, .int i27, .ref b28, .ref b29, .ref b30, .ref b31, .ref b32, .ref b33, .ref b34, .ref b35, .ref b36, .int i37, .int i38, .int i39, .int i40, .int i41, .int i42, .int i43, .int i44, .int i45, .ref b46, .ref b47, .ref b48, .ref b49, .ref b50, .ref b51, .ref b52, .ref b53, .ref b54, .ref b55, .ref b56, .ref b57, .ref b58, .ref b59, .ref b60, .ref b61, .ref b62, .ref b63])), (b59, .inl (g.2.1 2, 16, .inr (.inl (lf (stM 4 t))))), (b60, .inl (g.2.1 2, 16, .inr (.inl (lf (seL 4 (stM 4 t) (q + 1))))))] := hW.pick [1, 0, 2] rfl rfl
                                    exact ih4 (q + 1) (by omega) (by omega) _ _ _ hW (lv_sub hl [1, 2, 3, 4, 5, 0] rfl)
                            exact loop4 17 0 (by omega) (by omega) _ _ _ hW (lv_sub hl [1, 2, 3, 4, 5, 0] rfl)
                          · have hli : i < 16 := ge_f (k := 16) (by omega) (by omega) c57
                            refine lv_aload_n (pc := 90) hx hb dX12_ways_90 rfl (lv_at hl 0 rfl) ?_
                            refine r_get X hW 0 ciX12 60 rfl (by decide) m_1287 rfl rfl dX12_ways_91 ?_
                            refine lv_iload (pc := 94) hx hb dX12_ways_94 (lv_at hl 5 rfl) ?_
                            refine lv_lconst (v := 0) (pc := 96) hx hb dX12_ways_96 (by decide) ?_
                            obtain ⟨f66, ef66⟩ : ∃ fz : Nat → Int64, vp_updL (lf (cpL ln z16 i)) (nI i).toNatClampNeg 0 = fz := ⟨_, rfl⟩
                            refine r_last (ws' := [(h0, .inr (12, [.int 0, .ref b1, .int i2, .int i3, .int i4, .int i5, .ref b6, .ref b7, .ref b8, .ref b9, .ref b10, .ref b11, .ref b12, .ref b13, .ref b14, .ref b15, .ref b16, .ref b17, .int i18, .int i19, .int i20, .ref b21, .ref b22, .ref b23, .ref b24, .ref b25, .ref b26, .int i27, .ref b28, .ref b29, .ref b30, .ref b31, .ref b32, .ref b33, .ref b34, .ref b35, .ref b36, .int i37, .int i38, .int i39, .int i40, .int i41, .int i42, .int i43, .int i44, .int i45, .ref b46, .ref b47, .ref b48, .ref b49, .ref b50, .ref b51, .ref b52, .ref b53, .ref b54, .ref b55, .ref b56, .ref b57, .ref b58, .ref b59, .ref b60, .ref b61, .ref b62, .ref b63])), (b59, .inl (g.2.1 2, 16, .inr (.inl (lf (stM 4 t))))), (b60, .inl (g.2.1 2, 16, .inr (.inl f66)))]) X hW 2 rfl (vp_in_nI (by omega) (by decide)) ef66 rfl dX12_ways_97 (fun H locs hW => ?_)
                            refine lv_iinc (v := nI (i + 1)) (lv' := [(5, .int (nI (i + 1))), (0, .ref h0), (1, .int (nI 4)), (2, .int (nI h)), (3, .int (nI k)), (4, .int (nI t))]) (pc := 98) hx hb dX12_ways_98 hl (k := 5) rfl (nI_1 i) (by decide) rfl (fun ls hl => ?_)
                            refine lv_goto (tgt := 83) (pc := 101) hx hb dX12_ways_101 rfl ?_
                            obtain rfl : f66 = lf (cpL ln z16 (i + 1)) := ef66.symm.trans (by rw [nI_clamp (by omega), cpL, z16_at]; exact lf_set (by rw [cpL_len, hln]; omega))
                            exact ih3 (i + 1) (by omega) (by omega) _ _ _ hW (lv_sub hl [1, 2, 3, 4, 5, 0] rfl)
                      exact loop3 17 0 (by omega) (by omega) _ _ _ hW (lv_sub hl [1, 2, 3, 4, 5, 0] rfl)
                exact loop2 (h + 1) 0 ln0 (by omega) (by omega) hln0 _ _ _ hW (lv_sub hl [1, 2, 3, 4, 0] rfl)
              · have hlt : i < 16 := ge_f (k := 16) (by omega) (by omega) c49
                refine lv_aload_n (pc := 47) hx hb dX12_ways_47 rfl (lv_at hl 0 rfl) ?_
                refine r_get X hW 0 ciX12 59 rfl (by decide) m_1286 rfl rfl dX12_ways_48 ?_
                refine lv_iload (pc := 51) hx hb dX12_ways_51 (lv_at hl 4 rfl) ?_
                refine lv_iload (pc := 53) hx hb dX12_ways_53 (lv_at hl 4 rfl) ?_
                refine lv_iconst (v := 1) (pc := 55) hx hb dX12_ways_55 (by decide) ?_
                refine lv_icmp_ne (tgt := 63) (pc := 56) hx hb dX12_ways_56 rfl (fun c67 => ?_) (fun c67 => ?_)
                · have hi1 : ¬ i = 1 := fun q => c67 (congrArg nI q)
                  refine lv_lconst (v := 0) (pc := 63) hx hb dX12_ways_63 (by decide) ?_
                  obtain ⟨f68, ef68⟩ : ∃ fz : Nat → Int64, vp_updL (lf (cpL ly (m0L 16) i)) (nI i).toNatClampNeg 0 = fz := ⟨_, rfl⟩
                  refine r_last (ws' := [(h0, .inr (12, [.int 0, .ref b1, .int i2, .int i3, .int i4, .int i5, .ref b6, .ref b7, .ref b8, .ref b9, .ref b10, .ref b11, .ref b12, .ref b13, .ref b14, .ref b15, .ref b16, .ref b17, .int i18, .int i19, .int i20, .ref b21, .ref b22, .ref b23, .ref b24, .ref b25, .ref b26, .int i27, .ref b28, .ref b29, .ref b30, .ref b31, .ref b32, .ref b33, .ref b34, .ref b35, .ref b36, .int i37, .int i38, .int i39, .int i40, .int i41, .int i42, .int i43, .int i44, .int i45, .ref b46, .ref b47, .ref b48, .ref b49, .ref b50, .ref b51, .ref b52, .ref b53, .ref b54, .ref b55, .ref b56, .ref b57, .ref b58, .ref b59, .ref b60, .ref b61, .ref b62, .ref b63])), (b59, .inl (g.2.1 2, 16, .inr (.inl f68))), (b60, .inl (g.2.1 2, 16, .inr (.inl (lf ln0))))]) X hW 1 rfl (vp_in_nI (by omega) (by decide)) ef68 rfl dX12_ways_64 (fun H locs hW => ?_)
                  refine lv_iinc (v := nI (i + 1)) (lv' := [(4, .int (nI (i + 1))), (0, .ref h0), (1, .int (nI 4)), (2, .int (nI h)), (3, .int (nI k))]) (pc := 65) hx hb dX12_ways_65 hl (k := 4) rfl (nI_1 i) (by decide) rfl (fun ls hl => ?_)
                  refine lv_goto (tgt := 40) (pc := 68) hx hb dX12_ways_68 rfl ?_
                  obtain rfl : f68 = lf (cpL ly (m0L 16) (i + 1)) := ef68.symm.trans (by rw [nI_clamp (by omega), cpL, m0_at i hlt, if_neg hi1]; exact lf_set (by rw [cpL_len, hly]; omega))
                  exact ih1 (i + 1) (by omega) (by omega) _ _ _ hW (lv_sub hl [1, 2, 3, 4, 0] rfl)
                · have hi1 : i = 1 := (nI_eq (by omega) (by decide)).mp c67
                  refine lv_lconst (v := 1) (pc := 59) hx hb dX12_ways_59 (by decide) ?_
                  refine lv_goto (tgt := 64) (pc := 60) hx hb dX12_ways_60 rfl ?_
                  obtain ⟨f69, ef69⟩ : ∃ fz : Nat → Int64, vp_updL (lf (cpL ly (m0L 16) i)) (nI i).toNatClampNeg 1 = fz := ⟨_, rfl⟩
                  refine r_last (ws' := [(h0, .inr (12, [.int 0, .ref b1, .int i2, .int i3, .int i4, .int i5, .ref b6, .ref b7, .ref b8, .ref b9, .ref b10, .ref b11, .ref b12, .ref b13, .ref b14, .ref b15, .ref b16, .ref b17, .int i18, .int i19, .int i20, .ref b21, .ref b22, .ref b23, .ref b24, .ref b25, .ref b26, .int i27, .ref b28, .ref b29, .ref b30, .ref b31, .ref b32, .ref b33, .ref b34, .ref b35, .ref b36, .int i37, .int i38, .int i39, .int i40, .int i41, .int i42, .int i43, .int i44, .int i45, .ref b46, .ref b47, .ref b48, .ref b49, .ref b50, .ref b51, .ref b52, .ref b53, .ref b54, .ref b55, .ref b56, .ref b57, .ref b58, .ref b59, .ref b60, .ref b61, .ref b62, .ref b63])), (b59, .inl (g.2.1 2, 16, .inr (.inl f69))), (b60, .inl (g.2.1 2, 16, .inr (.inl (lf ln0))))]) X hW 1 rfl (vp_in_nI (by omega) (by decide)) ef69 rfl dX12_ways_64 (fun H locs hW => ?_)
                  refine lv_iinc (v := nI (i + 1)) (lv' := [(4, .int (nI (i + 1))), (0, .ref h0), (1, .int (nI 4)), (2, .int (nI h)), (3, .int (nI k))]) (pc := 65) hx hb dX12_ways_65 hl (k := 4) rfl (nI_1 i) (by decide) rfl (fun ls hl => ?_)
                  refine lv_goto (tgt := 40) (pc := 68) hx hb dX12_ways_68 rfl ?_
                  obtain rfl : f69 = lf (cpL ly (m0L 16) (i + 1)) := ef69.symm.trans (by rw [nI_clamp (by omega), cpL, m0_at i hlt, if_pos hi1]; exact lf_set (by rw [cpL_len, hly]; omega))
                  exact ih1 (i + 1) (by omega) (by omega) _ _ _ hW (lv_sub hl [1, 2, 3, 4, 0] rfl)
          exact loop1 17 0 (by omega) (by omega) _ _ _ hW (lv_sub hl [1, 2, 3, 4, 0] rfl)
      · refine lv_ldc2 (pc := 33) hx hb X.2.2.2.1 (X.2.2.2.2.1 _ m_1759) dX12_ways_33 ?_
        exact e_l X hQ hr hW (u := [(h0, .inr (12, [.int 0, .ref b1, .int i2, .int i3, .int i4, .int i5, .ref b6, .ref b7, .ref b8, .ref b9, .ref b10, .ref b11, .ref b12, .ref b13, .ref b14, .ref b15, .ref b16, .ref b17, .int i18, .int i19, .int i20, .ref b21, .ref b22, .ref b23, .ref b24, .ref b25, .ref b26, .int i27, .ref b28, .ref b29, .ref b30, .ref b31, .ref b32, .ref b33, .ref b34, .ref b35, .ref b36, .int i37, .int i38, .int i39, .int i40, .int i41, .int i42, .int i43, .int i44, .int i45, .ref b46, .ref b47, .ref b48, .ref b49, .ref b50, .ref b51, .ref b52, .ref b53, .ref b54, .ref b55, .ref b56, .ref b57, .ref b58, .ref b59, .ref b60, .ref b61, .ref b62, .ref b63])), (b59, .inl (g.2.1 2, 16, .inr (.inl (lf ly)))), (b60, .inl (g.2.1 2, 16, .inr (.inl (lf ln0))))]) [0, 1, 2] rfl rfl (⟨(wv_no (fun h9 => by obtain ⟨q1, q2, q3, q4, q5, q6⟩ := h9; rcases inv3_0 c6 with h8 | h8 <;> first | exact q1 h8 | exact q2 h8 | exact q3 h8 | exact q4 h8 | exact q5 h8 | exact q6 h8)).symm, _, _, rfl⟩) ⟨Nat.le_of_ble_eq_true rfl, Nat.le_of_ble_eq_true rfl⟩ dX12_ways_36

def F_X12_everybody (rP : Nat → Int32) (i : Nat) : Int32 := ((1 : Int32) <<< ((rP i) &&& 31)) - (1 : Int32)
set_option maxHeartbeats 4000000 in
set_option maxRecDepth 100000 in
theorem K_X12_everybody (l : Launch) (g : GG) (h0 : Nat) (vs : List Value) (b6 : Nat) (rP : Nat → Int32) (i : Nat) (hlen : vs.length = 64) (h6_ : vs[6]? = some (.ref b6)) (hi : i < 11) : MetI l g yX12_everybody cX12_everybody 2 (some .int) 0 0 0 [.ref h0, .int (nI i)] [(h0, .inr (12, vs)), (b6, .inl (g.2.1 1, 11, .inl rP))] (fun r u => r = (F_X12_everybody rP i) ∧ u = [(h0, .inr (12, vs)), (b6, .inl (g.2.1 1, 11, .inl rP))]) := by
  refine MetI.of (own := RX12) rfl (by decide) (Nat.le_of_ble_eq_true rfl) ?_
  intro p e s m below meth c A ls args Q hQ X hr hin hW hl
  have hx := X.1
  have hb := X.2.1
  have hl : lv_has ls 2 [(0, .ref h0), (1, .int (nI i))] := hl
  refine lv_iconst (v := 1) (pc := 0) hx hb dX12_everybody_0 (by decide) ?_
  refine lv_aload_n (pc := 1) hx hb dX12_everybody_1 rfl (lv_at hl 0 rfl) ?_
  refine r_get X hW 0 ciX12 6 rfl (by decide) m_1237 rfl h6_ dX12_everybody_2 ?_
  refine lv_iload_n (pc := 5) hx hb dX12_everybody_5 rfl (lv_at hl 1 rfl) ?_
  refine r_iald X hW 1 rfl (vp_in_nI (by omega) (by decide)) dX12_everybody_6 ?_
  refine lv_topi (fun v1 ev1 => ?_)
  obtain rfl : v1 = rP i := ev1.trans (by rw [nI_clamp (by omega)])
  refine lv_ishl (pc := 7) hx hb dX12_everybody_7 ?_
  refine lv_iconst (v := 1) (pc := 8) hx hb dX12_everybody_8 (by decide) ?_
  refine lv_isub (pc := 9) hx hb dX12_everybody_9 ?_
  have hF : F_X12_everybody rP i = ((1 : Int32) <<< ((rP i) &&& 31)) - (1 : Int32) := show F_X12_everybody rP i = ((1 : Int32) <<< ((rP i) &&& 31)) - (1 : Int32) from rfl
  exact e_i (u := [(h0, .inr (12, vs)), (b6, .inl (g.2.1 1, 11, .inl rP))]) X hQ hr (hW) [0, 1] rfl rfl (⟨hF.symm, rfl⟩) ⟨Nat.le_of_ble_eq_true rfl, Nat.le_of_ble_eq_true rfl⟩ dX12_everybody_10

def L2_X12_holdsAlls (rA : Nat → Int32) (rB : Nat → Int32) (rO : Nat → Int32) (i : Nat) (j2 : Nat) (x2_2 : Int32) : Int32 := if rO (12 * i + j2) = 0 then (if ((x2_2 >>> ((rA (12 * i + j2)) &&& 31)) ||| (x2_2 >>> ((rB (12 * i + j2)) &&& 31))) &&& (1 : Int32) = 0 then (x2_2) else (x2_2 ||| (((1 : Int32) <<< ((rA (12 * i + j2)) &&& 31)) ||| ((1 : Int32) <<< ((rB (12 * i + j2)) &&& 31))))) else (x2_2)
def L2_X12_holdsAll (rA : Nat → Int32) (rB : Nat → Int32) (rO : Nat → Int32) (i : Nat) (i0_ : Int32) : Nat → Int32
  | 0 => (i0_)
  | k_ + 1 => L2_X12_holdsAlls rA rB rO i k_ (L2_X12_holdsAll rA rB rO i i0_ k_)
def L1_X12_holdsAlls (rA : Nat → Int32) (rB : Nat → Int32) (rO : Nat → Int32) (lc : Nat) (i : Nat) (j1 : Nat) (x2_1 : Int32) : Int32 := (L2_X12_holdsAll rA rB rO i x2_1 lc)
def L1_X12_holdsAll (rA : Nat → Int32) (rB : Nat → Int32) (rO : Nat → Int32) (lc : Nat) (i : Nat) (i0_ : Int32) : Nat → Int32
  | 0 => (i0_)
  | k_ + 1 => L1_X12_holdsAlls rA rB rO lc i k_ (L1_X12_holdsAll rA rB rO lc i i0_ k_)
def F_X12_holdsAll (rP : Nat → Int32) (rA : Nat → Int32) (rB : Nat → Int32) (rO : Nat → Int32) (lc : Nat) (i : Nat) : Int32 := if (L1_X12_holdsAll rA rB rO lc i (1 : Int32) 7) = F_X12_everybody rP i then ((1 : Int32)) else ((0 : Int32))
set_option maxHeartbeats 4000000 in
set_option maxRecDepth 100000 in
theorem K_X12_holdsAll (l : Launch) (g : GG) (h0 : Nat) (vs : List Value) (b6 : Nat) (rP : Nat → Int32) (b7 : Nat) (rL : Nat → Int32) (b12 : Nat) (rA : Nat → Int32) (b13 : Nat) (rB : Nat → Int32) (b17 : Nat) (rO : Nat → Int32) (lc : Nat) (i : Nat) (hlen : vs.length = 64) (h6_ : vs[6]? = some (.ref b6)) (h7_ : vs[7]? = some (.ref b7)) (h12_ : vs[12]? = some (.ref b12)) (h13_ : vs[13]? = some (.ref b13)) (h17_ : vs[17]? = some (.ref b17)) (hi : i < 11) (hlc : lc ≤ 12) (hL : rL i = nI lc) : MetI l g yX12_holdsAll cX12_holdsAll 6 (some .boolean) 1 0 0 [.ref h0, .int (nI i)] [(h0, .inr (12, vs)), (b6, .inl (g.2.1 1, 11, .inl rP)), (b7, .inl (g.2.1 1, 11, .inl rL)), (b12, .inl (g.2.1 1, 132, .inl rA)), (b13, .inl (g.2.1 1, 132, .inl rB)), (b17, .inl (g.2.1 3, 132, .inl rO))] (fun r u => r = (F_X12_holdsAll rP rA rB rO lc i) ∧ u = [(h0, .inr (12, vs)), (b6, .inl (g.2.1 1, 11, .inl rP)), (b7, .inl (g.2.1 1, 11, .inl rL)), (b12, .inl (g.2.1 1, 132, .inl rA)), (b13, .inl (g.2.1 1, 132, .inl rB)), (b17, .inl (g.2.1 3, 132, .inl rO))]) := by
  refine MetI.of (own := RX12) rfl (by decide) (Nat.le_of_ble_eq_true rfl) ?_
  intro p e s m below meth c A ls args Q hQ X hr hin hW hl
  have hx := X.1
  have hb := X.2.1
  have hl : lv_has ls 6 [(0, .ref h0), (1, .int (nI i))] := hl
  refine lv_iconst (v := 1) (pc := 0) hx hb dX12_holdsAll_0 (by decide) ?_
  refine lv_istore_n (lv' := [(2, .int 1), (0, .ref h0), (1, .int (nI i))]) (pc := 1) hx hb dX12_holdsAll_1 rfl hl (by decide) rfl (fun ls hl => ?_)
  refine lv_iconst (v := 0) (pc := 2) hx hb dX12_holdsAll_2 (by decide) ?_
  refine lv_istore_n (lv' := [(3, .int 0), (2, .int 1), (0, .ref h0), (1, .int (nI i))]) (pc := 3) hx hb dX12_holdsAll_3 rfl hl (by decide) rfl (fun ls hl => ?_)
  have loop1 : ∀ (fu1 : Nat) (j1 : Nat) (x2_1 : Int32), (7 < fu1 + j1) → (j1 ≤ 7) → (x2_1 = L1_X12_holdsAll rA rB rO lc i (1 : Int32) j1) → ∀ (H : Heap) (locs : List Loc) (ls : Array Slot), WD g A s H locs [(h0, .inr (12, vs)), (b6, .inl (g.2.1 1, 11, .inl rP)), (b7, .inl (g.2.1 1, 11, .inl rL)), (b12, .inl (g.2.1 1, 132, .inl rA)), (b13, .inl (g.2.1 1, 132, .inl rB)), (b17, .inl (g.2.1 3, 132, .inl rO))] → lv_has ls 6 [(3, .int (nI j1)), (2, .int x2_1), (0, .ref h0), (1, .int (nI i))] → W p l e (RM 1 0 0) s m args below meth c H locs 0 0 Q (F0 m 4 ls []) := by
    intro fu1
    induction fu1 with
    | zero =>
      intro j1 x2_1 hm1 hj1 hst1
      exact absurd hm1 (by omega)
    | succ fu1 ih1 =>
      intro j1 x2_1 hm1 hj1 hst1 H locs ls hW hl
      refine lv_iload_n (pc := 4) hx hb dX12_holdsAll_4 rfl (lv_at hl 0 rfl) ?_
      refine lv_bipush (v := 7) (pc := 5) hx hb dX12_holdsAll_5 (by decide) ?_
      refine lv_icmp_ge (tgt := 104) (pc := 7) hx hb dX12_holdsAll_7 rfl (fun c1 => ?_) (fun c1 => ?_)
      · have h2 : 7 ≤ j1 := (nI_leI (a := 7) (b := j1) (by omega) (by omega)).mp c1
        have hN1 : j1 = 7 := by omega
        rw [hN1] at hst1
        subst hst1
        have hW : WD g A s _ _ [(h0, .inr (12, vs)), (b6, .inl (g.2.1 1, 11, .inl rP)), (b7, .inl (g.2.1 1, 11, .inl rL)), (b12, .inl (g.2.1 1, 132, .inl rA)), (b13, .inl (g.2.1 1, 132, .inl rB)), (b17, .inl (g.2.1 3, 132, .inl rO))] := hW
        refine lv_iload_n (pc := 104) hx hb dX12_holdsAll_104 rfl (lv_at hl 1 rfl) ?_
        refine lv_aload_n (pc := 105) hx hb dX12_holdsAll_105 rfl (lv_at hl 2 rfl) ?_
        refine lv_iload_n (pc := 106) hx hb dX12_holdsAll_106 rfl (lv_at hl 3 rfl) ?_
        refine c_Vi (pc := 107) (As := [.int (nI i)]) (rest := [.int (L1_X12_holdsAll rA rB rO lc i (1 : Int32) 7)]) (wr := [(b7, .inl (g.2.1 1, 11, .inl rL)), (b12, .inl (g.2.1 1, 132, .inl rA)), (b13, .inl (g.2.1 1, 132, .inl rB)), (b17, .inl (g.2.1 3, 132, .inl rO))]) X hW 0 ciX12 rfl (K_X12_everybody l g h0 vs b6 rP i hlen h6_ (by omega)) vX12_274 [0, 1] [2, 3, 4, 5] rfl rfl rfl rfl rfl rfl hl.1 rfl (Nat.le_of_ble_eq_true rfl) ⟨Nat.le_of_ble_eq_true rfl, Nat.le_of_ble_eq_true rfl⟩ ⟨Nat.le_of_ble_eq_true rfl, Nat.le_of_ble_eq_true rfl⟩ dX12_holdsAll_107 (fun r3 u9 H locs hq hW => ?_)
        obtain ⟨rfl, rfl⟩ := hq
        have hW : WD g A s _ _ [(b7, .inl (g.2.1 1, 11, .inl rL)), (b12, .inl (g.2.1 1, 132, .inl rA)), (b13, .inl (g.2.1 1, 132, .inl rB)), (b17, .inl (g.2.1 3, 132, .inl rO)), (h0, .inr (12, vs)), (b6, .inl (g.2.1 1, 11, .inl rP))] := hW
        refine lv_icmp_ne (tgt := 117) (pc := 110) hx hb dX12_holdsAll_110 rfl (fun c4 => ?_) (fun c4 => ?_)
        · refine lv_iconst (v := 0) (pc := 117) hx hb dX12_holdsAll_117 (by decide) ?_
          have hF : F_X12_holdsAll rP rA rB rO lc i = (0 : Int32) := show F_X12_holdsAll rP rA rB rO lc i = (0 : Int32) from by rw [F_X12_holdsAll, if_neg c4]
          exact e_z (u := [(h0, .inr (12, vs)), (b6, .inl (g.2.1 1, 11, .inl rP)), (b7, .inl (g.2.1 1, 11, .inl rL)), (b12, .inl (g.2.1 1, 132, .inl rA)), (b13, .inl (g.2.1 1, 132, .inl rB)), (b17, .inl (g.2.1 3, 132, .inl rO))]) X hQ hr (hW) rfl [4, 5, 0, 1, 2, 3] rfl rfl (⟨hF.symm, rfl⟩) ⟨Nat.le_of_ble_eq_true rfl, Nat.le_of_ble_eq_true rfl⟩ dX12_holdsAll_118
        · refine lv_iconst (v := 1) (pc := 113) hx hb dX12_holdsAll_113 (by decide) ?_
          refine lv_goto (tgt := 118) (pc := 114) hx hb dX12_holdsAll_114 rfl ?_
          have hF : F_X12_holdsAll rP rA rB rO lc i = (1 : Int32) := show F_X12_holdsAll rP rA rB rO lc i = (1 : Int32) from by rw [F_X12_holdsAll, if_pos c4]
          exact e_z (u := [(h0, .inr (12, vs)), (b6, .inl (g.2.1 1, 11, .inl rP)), (b7, .inl (g.2.1 1, 11, .inl rL)), (b12, .inl (g.2.1 1, 132, .inl rA)), (b13, .inl (g.2.1 1, 132, .inl rB)), (b17, .inl (g.2.1 3, 132, .inl rO))]) X hQ hr (hW) rfl [4, 5, 0, 1, 2, 3] rfl rfl (⟨hF.symm, rfl⟩) ⟨Nat.le_of_ble_eq_true rfl, Nat.le_of_ble_eq_true rfl⟩ dX12_holdsAll_118
      · have h7 : ¬ (7 ≤ j1) := fun q => c1 ((nI_leI (a := 7) (b := j1) (by omega) (by omega)).mpr q)
        refine lv_iconst (v := 0) (pc := 10) hx hb dX12_holdsAll_10 (by decide) ?_
        refine lv_istore (lv' := [(4, .int 0), (3, .int (nI j1)), (2, .int x2_1), (0, .ref h0), (1, .int (nI i))]) (pc := 11) hx hb dX12_holdsAll_11 hl (by decide) rfl (fun ls hl => ?_)
        have loop2 : ∀ (fu2 : Nat) (j2 : Nat) (x2_2 : Int32), (lc < fu2 + j2) → (j2 ≤ lc) → (x2_2 = L2_X12_holdsAll rA rB rO i x2_1 j2) → ∀ (H : Heap) (locs : List Loc) (ls : Array Slot), WD g A s H locs [(h0, .inr (12, vs)), (b6, .inl (g.2.1 1, 11, .inl rP)), (b7, .inl (g.2.1 1, 11, .inl rL)), (b12, .inl (g.2.1 1, 132, .inl rA)), (b13, .inl (g.2.1 1, 132, .inl rB)), (b17, .inl (g.2.1 3, 132, .inl rO))] → lv_has ls 6 [(4, .int (nI j2)), (3, .int (nI j1)), (2, .int x2_2), (0, .ref h0), (1, .int (nI i))] → W p l e (RM 1 0 0) s m args below meth c H locs 0 0 Q (F0 m 13 ls []) := by
          intro fu2
          induction fu2 with
          | zero =>
            intro j2 x2_2 hm2 hj2 hst2
            exact absurd hm2 (by omega)
          | succ fu2 ih2 =>
            intro j2 x2_2 hm2 hj2 hst2 H locs ls hW hl
            refine lv_iload (pc := 13) hx hb dX12_holdsAll_13 (lv_at hl 0 rfl) ?_
            refine lv_aload_n (pc := 15) hx hb dX12_holdsAll_15 rfl (lv_at hl 3 rfl) ?_
            refine r_get X hW 0 ciX12 7 rfl (by decide) m_1238 rfl h7_ dX12_holdsAll_16 ?_
            refine lv_iload_n (pc := 19) hx hb dX12_holdsAll_19 rfl (lv_at hl 4 rfl) ?_
            refine r_iald X hW 2 rfl (vp_in_nI (by omega) (by decide)) dX12_holdsAll_20 ?_
            refine lv_topi (fun v8 ev8 => ?_)
            obtain rfl : v8 = rL i := ev8.trans (by rw [nI_clamp (by omega)])
            rw [hL]
            refine lv_icmp_ge (tgt := 98) (pc := 21) hx hb dX12_holdsAll_21 rfl (fun c9 => ?_) (fun c9 => ?_)
            · have h10 : lc ≤ j2 := (nI_leI (a := lc) (b := j2) (by omega) (by omega)).mp c9
              have hN2 : j2 = lc := by omega
              rw [hN2] at hst2
              subst hst2
              have hW : WD g A s _ _ [(h0, .inr (12, vs)), (b6, .inl (g.2.1 1, 11, .inl rP)), (b7, .inl (g.2.1 1, 11, .inl rL)), (b12, .inl (g.2.1 1, 132, .inl rA)), (b13, .inl (g.2.1 1, 132, .inl rB)), (b17, .inl (g.2.1 3, 132, .inl rO))] := hW
              refine lv_iinc (v := nI (j1 + 1)) (lv' := [(3, .int (nI (j1 + 1))), (4, .int (nI j2)), (2, .int (L2_X12_holdsAll rA rB rO i x2_1 lc)), (0, .ref h0), (1, .int (nI i))]) (pc := 98) hx hb dX12_holdsAll_98 hl (k := 1) rfl (nI_add j1 1) (by decide) rfl (fun ls hl => ?_)
              refine lv_goto (tgt := 4) (pc := 101) hx hb dX12_holdsAll_101 rfl ?_
              exact ih1 (j1 + 1) (L2_X12_holdsAll rA rB rO i x2_1 lc) (by omega) (by omega) (by rw [L1_X12_holdsAll, ← hst1]; exact (show L1_X12_holdsAlls rA rB rO lc i j1 x2_1 = (L2_X12_holdsAll rA rB rO i x2_1 lc) from rfl).symm) _ _ _ hW (lv_sub hl [0, 2, 3, 4] rfl)
            · have h11 : ¬ (lc ≤ j2) := fun q => c9 ((nI_leI (a := lc) (b := j2) (by omega) (by omega)).mpr q)
              refine lv_bipush (v := 12) (pc := 24) hx hb dX12_holdsAll_24 (by decide) ?_
              refine lv_iload_n (pc := 26) hx hb dX12_holdsAll_26 rfl (lv_at hl 4 rfl) ?_
              refine lv_imul (pc := 27) hx hb dX12_holdsAll_27 ?_
              refine lv_topi (fun v12 ev12 => ?_)
              obtain rfl : v12 = nI (12 * i) := ev12.trans (pk_mul 12 i)
              refine lv_iload (pc := 28) hx hb dX12_holdsAll_28 (lv_at hl 0 rfl) ?_
              refine lv_iadd (pc := 30) hx hb dX12_holdsAll_30 ?_
              refine lv_topi (fun v13 ev13 => ?_)
              obtain rfl : v13 = nI (12 * i + j2) := ev13.trans (nI_add _ _)
              refine lv_istore (lv' := [(5, .int (nI (12 * i + j2))), (4, .int (nI j2)), (3, .int (nI j1)), (2, .int x2_2), (0, .ref h0), (1, .int (nI i))]) (pc := 31) hx hb dX12_holdsAll_31 hl (by decide) rfl (fun ls hl => ?_)
              refine lv_aload_n (pc := 33) hx hb dX12_holdsAll_33 rfl (lv_at hl 4 rfl) ?_
              refine r_get X hW 0 ciX12 17 rfl (by decide) m_1248 rfl h17_ dX12_holdsAll_34 ?_
              refine lv_iload (pc := 37) hx hb dX12_holdsAll_37 (lv_at hl 0 rfl) ?_
              refine r_zald X hW 5 rfl (vp_in_nI (by omega) (by decide)) dX12_holdsAll_39 ?_
              refine lv_topi (fun v14 ev14 => ?_)
              obtain rfl : v14 = rO (12 * i + j2) := ev14.trans (by rw [nI_clamp (by omega)])
              refine lv_if_ne (tgt := 92) (pc := 40) hx hb dX12_holdsAll_40 rfl (fun c15 => ?_) (fun c15 => ?_)
              · refine lv_iinc (v := nI (j2 + 1)) (lv' := [(4, .int (nI (j2 + 1))), (5, .int (nI (12 * i + j2))), (3, .int (nI j1)), (2, .int x2_2), (0, .ref h0), (1, .int (nI i))]) (pc := 92) hx hb dX12_holdsAll_92 hl (k := 1) rfl (nI_add j2 1) (by decide) rfl (fun ls hl => ?_)
                refine lv_goto (tgt := 13) (pc := 95) hx hb dX12_holdsAll_95 rfl ?_
                exact ih2 (j2 + 1) x2_2 (by omega) (by omega) (by rw [L2_X12_holdsAll, ← hst2]; exact (show L2_X12_holdsAlls rA rB rO i j2 x2_2 = x2_2 from by rw [L2_X12_holdsAlls, if_neg c15]).symm) _ _ _ hW (lv_sub hl [0, 2, 3, 4, 5] rfl)
              · refine lv_iload_n (pc := 43) hx hb dX12_holdsAll_43 rfl (lv_at hl 3 rfl) ?_
                refine lv_aload_n (pc := 44) hx hb dX12_holdsAll_44 rfl (lv_at hl 4 rfl) ?_
                refine r_get X hW 0 ciX12 12 rfl (by decide) m_1243 rfl h12_ dX12_holdsAll_45 ?_
                refine lv_iload (pc := 48) hx hb dX12_holdsAll_48 (lv_at hl 0 rfl) ?_
                refine r_iald X hW 3 rfl (vp_in_nI (by omega) (by decide)) dX12_holdsAll_50 ?_
                refine lv_topi (fun v18 ev18 => ?_)
                obtain rfl : v18 = rA (12 * i + j2) := ev18.trans (by rw [nI_clamp (by omega)])
                refine lv_ishr (pc := 51) hx hb dX12_holdsAll_51 ?_
                refine lv_iload_n (pc := 52) hx hb dX12_holdsAll_52 rfl (lv_at hl 3 rfl) ?_
                refine lv_aload_n (pc := 53) hx hb dX12_holdsAll_53 rfl (lv_at hl 4 rfl) ?_
                refine r_get X hW 0 ciX12 13 rfl (by decide) m_1244 rfl h13_ dX12_holdsAll_54 ?_
                refine lv_iload (pc := 57) hx hb dX12_holdsAll_57 (lv_at hl 0 rfl) ?_
                refine r_iald X hW 4 rfl (vp_in_nI (by omega) (by decide)) dX12_holdsAll_59 ?_
                refine lv_topi (fun v19 ev19 => ?_)
                obtain rfl : v19 = rB (12 * i + j2) := ev19.trans (by rw [nI_clamp (by omega)])
                refine lv_ishr (pc := 60) hx hb dX12_holdsAll_60 ?_
                refine lv_ior (pc := 61) hx hb dX12_holdsAll_61 ?_
                refine lv_iconst (v := 1) (pc := 62) hx hb dX12_holdsAll_62 (by decide) ?_
                refine lv_iand (pc := 63) hx hb dX12_holdsAll_63 ?_
                refine lv_if_ne (tgt := 70) (pc := 64) hx hb dX12_holdsAll_64 rfl (fun c20 => ?_) (fun c20 => ?_)
                · refine lv_iload_n (pc := 70) hx hb dX12_holdsAll_70 rfl (lv_at hl 3 rfl) ?_
                  refine lv_iconst (v := 1) (pc := 71) hx hb dX12_holdsAll_71 (by decide) ?_
                  refine lv_aload_n (pc := 72) hx hb dX12_holdsAll_72 rfl (lv_at hl 4 rfl) ?_
                  refine r_get X hW 0 ciX12 12 rfl (by decide) m_1243 rfl h12_ dX12_holdsAll_73 ?_
                  refine lv_iload (pc := 76) hx hb dX12_holdsAll_76 (lv_at hl 0 rfl) ?_
                  refine r_iald X hW 3 rfl (vp_in_nI (by omega) (by decide)) dX12_holdsAll_78 ?_
                  refine lv_topi (fun v22 ev22 => ?_)
                  obtain rfl : v22 = rA (12 * i + j2) := ev22.trans (by rw [nI_clamp (by omega)])
                  refine lv_ishl (pc := 79) hx hb dX12_holdsAll_79 ?_
                  refine lv_iconst (v := 1) (pc := 80) hx hb dX12_holdsAll_80 (by decide) ?_
                  refine lv_aload_n (pc := 81) hx hb dX12_holdsAll_81 rfl (lv_at hl 4 rfl) ?_
                  refine r_get X hW 0 ciX12 13 rfl (by decide) m_1244 rfl h13_ dX12_holdsAll_82 ?_
                  refine lv_iload (pc := 85) hx hb dX12_holdsAll_85 (lv_at hl 0 rfl) ?_
                  refine r_iald X hW 4 rfl (vp_in_nI (by omega) (by decide)) dX12_holdsAll_87 ?_
                  refine lv_topi (fun v23 ev23 => ?_)
                  obtain rfl : v23 = rB (12 * i + j2) := ev23.trans (by rw [nI_clamp (by omega)])
                  refine lv_ishl (pc := 88) hx hb dX12_holdsAll_88 ?_
                  refine lv_ior (pc := 89) hx hb dX12_holdsAll_89 ?_
                  refine lv_ior (pc := 90) hx hb dX12_holdsAll_90 ?_
                  refine lv_istore_n (lv' := [(2, .int (x2_2 ||| (((1 : Int32) <<< ((rA (12 * i + j2)) &&& 31)) ||| ((1 : Int32) <<< ((rB (12 * i + j2)) &&& 31))))), (5, .int (nI (12 * i + j2))), (4, .int (nI j2)), (3, .int (nI j1)), (0, .ref h0), (1, .int (nI i))]) (pc := 91) hx hb dX12_holdsAll_91 rfl hl (by decide) rfl (fun ls hl => ?_)
                  refine lv_iinc (v := nI (j2 + 1)) (lv' := [(4, .int (nI (j2 + 1))), (2, .int (x2_2 ||| (((1 : Int32) <<< ((rA (12 * i + j2)) &&& 31)) ||| ((1 : Int32) <<< ((rB (12 * i + j2)) &&& 31))))), (5, .int (nI (12 * i + j2))), (3, .int (nI j1)), (0, .ref h0), (1, .int (nI i))]) (pc := 92) hx hb dX12_holdsAll_92 hl (k := 2) rfl (nI_add j2 1) (by decide) rfl (fun ls hl => ?_)
                  refine lv_goto (tgt := 13) (pc := 95) hx hb dX12_holdsAll_95 rfl ?_
                  exact ih2 (j2 + 1) (x2_2 ||| (((1 : Int32) <<< ((rA (12 * i + j2)) &&& 31)) ||| ((1 : Int32) <<< ((rB (12 * i + j2)) &&& 31)))) (by omega) (by omega) (by rw [L2_X12_holdsAll, ← hst2]; exact (show L2_X12_holdsAlls rA rB rO i j2 x2_2 = x2_2 ||| (((1 : Int32) <<< ((rA (12 * i + j2)) &&& 31)) ||| ((1 : Int32) <<< ((rB (12 * i + j2)) &&& 31))) from by rw [L2_X12_holdsAlls, if_pos c15, if_neg c20]).symm) _ _ _ hW (lv_sub hl [0, 3, 1, 4, 5] rfl)
                · refine lv_goto (tgt := 92) (pc := 67) hx hb dX12_holdsAll_67 rfl ?_
                  refine lv_iinc (v := nI (j2 + 1)) (lv' := [(4, .int (nI (j2 + 1))), (5, .int (nI (12 * i + j2))), (3, .int (nI j1)), (2, .int x2_2), (0, .ref h0), (1, .int (nI i))]) (pc := 92) hx hb dX12_holdsAll_92 hl (k := 1) rfl (nI_add j2 1) (by decide) rfl (fun ls hl => ?_)
                  refine lv_goto (tgt := 13) (pc := 95) hx hb dX12_holdsAll_95 rfl ?_
                  exact ih2 (j2 + 1) x2_2 (by omega) (by omega) (by rw [L2_X12_holdsAll, ← hst2]; exact (show L2_X12_holdsAlls rA rB rO i j2 x2_2 = x2_2 from by rw [L2_X12_holdsAlls, if_pos c15, if_pos c20]).symm) _ _ _ hW (lv_sub hl [0, 2, 3, 4, 5] rfl)
        exact loop2 (lc + 1) 0 x2_1 (by omega) (by omega) rfl _ _ _ hW (lv_sub hl [0, 1, 2, 3, 4] rfl)
  exact loop1 (7 + 1) 0 (1 : Int32) (by omega) (by omega) rfl _ _ _ hW (lv_sub hl [0, 1, 2, 3] rfl)

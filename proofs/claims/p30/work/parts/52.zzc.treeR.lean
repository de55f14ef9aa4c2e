def L1_X12_isBeside (rA : Nat → Int32) (rB : Nat → Int32) (rO : Nat → Int32) (i : Nat) (lc : Nat) (a : Nat) (b : Nat) : Nat → Nat → Int32
  | 0, _ => (0)
  | m_ + 1, j1 => if nI lc ≤ nI j1 then ((0 : Int32)) else (if rO (12 * i + j1) = 0 then (if F_X12_joins rA rB rO (12 * i + j1) (nI a) (nI b) = 0 then (L1_X12_isBeside rA rB rO i lc a b m_ (j1 + 1) ) else ((1 : Int32))) else (L1_X12_isBeside rA rB rO i lc a b m_ (j1 + 1) ))
def F_X12_isBeside (rA : Nat → Int32) (rB : Nat → Int32) (rO : Nat → Int32) (i : Nat) (lc : Nat) (a : Nat) (b : Nat) : Int32 := L1_X12_isBeside rA rB rO i lc a b (lc + 1) 0 
set_option maxHeartbeats 4000000 in
set_option maxRecDepth 100000 in
theorem K_X12_isBeside (l : Launch) (g : GG) (h0 : Nat) (vs : List Value) (b7 : Nat) (rL : Nat → Int32) (b12 : Nat) (rA : Nat → Int32) (b13 : Nat) (rB : Nat → Int32) (b17 : Nat) (rO : Nat → Int32) (i : Nat) (lc : Nat) (a : Nat) (b : Nat) (hlen : vs.length = 64) (h7_ : vs[7]? = some (.ref b7)) (h12_ : vs[12]? = some (.ref b12)) (h13_ : vs[13]? = some (.ref b13)) (h17_ : vs[17]? = some (.ref b17)) (hi : i < 11) (hlc : lc ≤ 12) (hL : rL i = nI lc) : MetI l g yX12_isBeside cX12_isBeside 5 (some .boolean) 1 0 0 [.ref h0, .int (nI i), .int (nI a), .int (nI b)] [(h0, .inr (12, vs)), (b7, .inl (g.2.1 1, 11, .inl rL)), (b12, .inl (g.2.1 1, 132, .inl rA)), (b13, .inl (g.2.1 1, 132, .inl rB)), (b17, .inl (g.2.1 3, 132, .inl rO))] (fun r u => r = (F_X12_isBeside rA rB rO i lc a b) ∧ u = [(h0, .inr (12, vs)), (b7, .inl (g.2.1 1, 11, .inl rL)), (b12, .inl (g.2.1 1, 132, .inl rA)), (b13, .inl (g.2.1 1, 132, .inl rB)), (b17, .inl (g.2.1 3, 132, .inl rO))]) := by
  refine MetI.of (own := RX12) rfl (by decide) (Nat.le_of_ble_eq_true rfl) ?_
  intro p e s m below meth c A ls args Q hQ X hr hin hW hl
  have hx := X.1
  have hb := X.2.1
  have hl : lv_has ls 5 [(0, .ref h0), (1, .int (nI i)), (2, .int (nI a)), (3, .int (nI b))] := hl
  refine lv_iconst (v := 0) (pc := 0) hx hb dX12_isBeside_0 (by decide) ?_
  refine lv_istore (lv' := [(4, .int 0), (0, .ref h0), (1, .int (nI i)), (2, .int (nI a)), (3, .int (nI b))]) (pc := 1) hx hb dX12_isBeside_1 hl (by decide) rfl (fun ls hl => ?_)
  have loop1 : ∀ (fu1 : Nat) (j1 : Nat), (lc < fu1 + j1) → (j1 ≤ lc) → (L1_X12_isBeside rA rB rO i lc a b fu1 j1 = F_X12_isBeside rA rB rO i lc a b) → ∀ (H : Heap) (locs : List Loc) (ls : Array Slot), WD g A s H locs [(h0, .inr (12, vs)), (b7, .inl (g.2.1 1, 11, .inl rL)), (b12, .inl (g.2.1 1, 132, .inl rA)), (b13, .inl (g.2.1 1, 132, .inl rB)), (b17, .inl (g.2.1 3, 132, .inl rO))] → lv_has ls 5 [(4, .int (nI j1)), (0, .ref h0), (1, .int (nI i)), (2, .int (nI a)), (3, .int (nI b))] → W p l e (RM 1 0 0) s m args below meth c H locs 0 0 Q (F0 m 3 ls []) := by
    intro fu1
    induction fu1 with
    | zero =>
      intro j1 hm1 hj1 hst1
      exact absurd hm1 (by omega)
    | succ fu1 ih1 =>
      intro j1 hm1 hj1 hst1 H locs ls hW hl
      refine lv_iload (pc := 3) hx hb dX12_isBeside_3 (lv_at hl 0 rfl) ?_
      refine lv_aload_n (pc := 5) hx hb dX12_isBeside_5 rfl (lv_at hl 1 rfl) ?_
      refine r_get X hW 0 ciX12 7 rfl (by decide) m_1238 rfl h7_ dX12_isBeside_6 ?_
      refine lv_iload_n (pc := 9) hx hb dX12_isBeside_9 rfl (lv_at hl 2 rfl) ?_
      refine r_iald X hW 1 rfl (vp_in_nI (by omega) (by decide)) dX12_isBeside_10 ?_
      refine lv_topi (fun v1 ev1 => ?_)
      obtain rfl : v1 = rL i := ev1.trans (by rw [nI_clamp (by omega)])
      rw [hL]
      refine lv_icmp_ge (tgt := 53) (pc := 11) hx hb dX12_isBeside_11 rfl (fun c2 => ?_) (fun c2 => ?_)
      · have h3 : lc ≤ j1 := (nI_leI (a := lc) (b := j1) (by omega) (by omega)).mp c2
        refine lv_iconst (v := 0) (pc := 53) hx hb dX12_isBeside_53 (by decide) ?_
        have hF : F_X12_isBeside rA rB rO i lc a b = (0 : Int32) := hst1.symm.trans (show L1_X12_isBeside rA rB rO i lc a b (fu1 + 1) j1 = (0 : Int32) from by rw [L1_X12_isBeside, if_pos c2])
        exact e_z (u := [(h0, .inr (12, vs)), (b7, .inl (g.2.1 1, 11, .inl rL)), (b12, .inl (g.2.1 1, 132, .inl rA)), (b13, .inl (g.2.1 1, 132, .inl rB)), (b17, .inl (g.2.1 3, 132, .inl rO))]) X hQ hr (hW) rfl [0, 1, 2, 3, 4] rfl rfl (⟨hF.symm, rfl⟩) ⟨Nat.le_of_ble_eq_true rfl, Nat.le_of_ble_eq_true rfl⟩ dX12_isBeside_54
      · have h4 : ¬ (lc ≤ j1) := fun q => c2 ((nI_leI (a := lc) (b := j1) (by omega) (by omega)).mpr q)
        refine lv_aload_n (pc := 14) hx hb dX12_isBeside_14 rfl (lv_at hl 1 rfl) ?_
        refine r_get X hW 0 ciX12 17 rfl (by decide) m_1248 rfl h17_ dX12_isBeside_15 ?_
        refine lv_bipush (v := 12) (pc := 18) hx hb dX12_isBeside_18 (by decide) ?_
        refine lv_iload_n (pc := 20) hx hb dX12_isBeside_20 rfl (lv_at hl 2 rfl) ?_
        refine lv_imul (pc := 21) hx hb dX12_isBeside_21 ?_
        refine lv_topi (fun v5 ev5 => ?_)
        obtain rfl : v5 = nI (12 * i) := ev5.trans (pk_mul 12 i)
        refine lv_iload (pc := 22) hx hb dX12_isBeside_22 (lv_at hl 0 rfl) ?_
        refine lv_iadd (pc := 24) hx hb dX12_isBeside_24 ?_
        refine lv_topi (fun v6 ev6 => ?_)
        obtain rfl : v6 = nI (12 * i + j1) := ev6.trans (nI_add _ _)
        refine r_zald X hW 4 rfl (vp_in_nI (by omega) (by decide)) dX12_isBeside_25 ?_
        refine lv_topi (fun v7 ev7 => ?_)
        obtain rfl : v7 = rO (12 * i + j1) := ev7.trans (by rw [nI_clamp (by omega)])
        refine lv_if_ne (tgt := 47) (pc := 26) hx hb dX12_isBeside_26 rfl (fun c8 => ?_) (fun c8 => ?_)
        · refine lv_iinc (v := nI (j1 + 1)) (lv' := [(4, .int (nI (j1 + 1))), (0, .ref h0), (1, .int (nI i)), (2, .int (nI a)), (3, .int (nI b))]) (pc := 47) hx hb dX12_isBeside_47 hl (k := 0) rfl (nI_add j1 1) (by decide) rfl (fun ls hl => ?_)
          refine lv_goto (tgt := 3) (pc := 50) hx hb dX12_isBeside_50 rfl ?_
          exact ih1 (j1 + 1)  (by omega) (by omega) ((show L1_X12_isBeside rA rB rO i lc a b (fu1 + 1) j1 = L1_X12_isBeside rA rB rO i lc a b fu1 (j1 + 1)  from by rw [L1_X12_isBeside, if_neg c2, if_neg c8]).symm.trans hst1) _ _ _ hW (lv_sub hl [0, 1, 2, 3, 4] rfl)
        · refine lv_aload_n (pc := 29) hx hb dX12_isBeside_29 rfl (lv_at hl 1 rfl) ?_
          refine lv_bipush (v := 12) (pc := 30) hx hb dX12_isBeside_30 (by decide) ?_
          refine lv_iload_n (pc := 32) hx hb dX12_isBeside_32 rfl (lv_at hl 2 rfl) ?_
          refine lv_imul (pc := 33) hx hb dX12_isBeside_33 ?_
          refine lv_topi (fun v11 ev11 => ?_)
          obtain rfl : v11 = nI (12 * i) := ev11.trans (pk_mul 12 i)
          refine lv_iload (pc := 34) hx hb dX12_isBeside_34 (lv_at hl 0 rfl) ?_
          refine lv_iadd (pc := 36) hx hb dX12_isBeside_36 ?_
          refine lv_topi (fun v12 ev12 => ?_)
          obtain rfl : v12 = nI (12 * i + j1) := ev12.trans (nI_add _ _)
          refine lv_iload_n (pc := 37) hx hb dX12_isBeside_37 rfl (lv_at hl 3 rfl) ?_
          refine lv_iload_n (pc := 38) hx hb dX12_isBeside_38 rfl (lv_at hl 4 rfl) ?_
          refine c_Vi (pc := 39) (As := [.int (nI (12 * i + j1)), .int (nI a), .int (nI b)]) (rest := []) (wr := [(b7, .inl (g.2.1 1, 11, .inl rL))]) X hW 0 ciX12 rfl (K_X12_joins l g h0 vs b12 rA b13 rB b17 rO (12 * i + j1) (nI a) (nI b) hlen h12_ h13_ h17_ (by omega)) vX12_231 [0, 2, 3, 4] [1] rfl rfl rfl rfl rfl rfl hl.1 rfl (Nat.le_of_ble_eq_true rfl) ⟨Nat.le_of_ble_eq_true rfl, Nat.le_of_ble_eq_true rfl⟩ ⟨Nat.le_of_ble_eq_true rfl, Nat.le_of_ble_eq_true rfl⟩ dX12_isBeside_39 (fun r13 u9 H locs hq hW => ?_)
          obtain ⟨rfl, rfl⟩ := hq
          have hW : WD g A s _ _ [(b7, .inl (g.2.1 1, 11, .inl rL)), (h0, .inr (12, vs)), (b12, .inl (g.2.1 1, 132, .inl rA)), (b13, .inl (g.2.1 1, 132, .inl rB)), (b17, .inl (g.2.1 3, 132, .inl rO))] := hW
          refine lv_if_eq (tgt := 47) (pc := 42) hx hb dX12_isBeside_42 rfl (fun c14 => ?_) (fun c14 => ?_)
          · refine lv_iinc (v := nI (j1 + 1)) (lv' := [(4, .int (nI (j1 + 1))), (0, .ref h0), (1, .int (nI i)), (2, .int (nI a)), (3, .int (nI b))]) (pc := 47) hx hb dX12_isBeside_47 hl (k := 0) rfl (nI_add j1 1) (by decide) rfl (fun ls hl => ?_)
            refine lv_goto (tgt := 3) (pc := 50) hx hb dX12_isBeside_50 rfl ?_
            have hW : WD g A s _ _ [(h0, .inr (12, vs)), (b7, .inl (g.2.1 1, 11, .inl rL)), (b12, .inl (g.2.1 1, 132, .inl rA)), (b13, .inl (g.2.1 1, 132, .inl rB)), (b17, .inl (g.2.1 3, 132, .inl rO))] := hW.pick [1, 0, 2, 3, 4] rfl rfl
            exact ih1 (j1 + 1)  (by omega) (by omega) ((show L1_X12_isBeside rA rB rO i lc a b (fu1 + 1) j1 = L1_X12_isBeside rA rB rO i lc a b fu1 (j1 + 1)  from by rw [L1_X12_isBeside, if_neg c2, if_pos c8, if_pos c14]).symm.trans hst1) _ _ _ hW (lv_sub hl [0, 1, 2, 3, 4] rfl)
          · refine lv_iconst (v := 1) (pc := 45) hx hb dX12_isBeside_45 (by decide) ?_
            have hF : F_X12_isBeside rA rB rO i lc a b = (1 : Int32) := hst1.symm.trans (show L1_X12_isBeside rA rB rO i lc a b (fu1 + 1) j1 = (1 : Int32) from by rw [L1_X12_isBeside, if_neg c2, if_pos c8, if_neg c14])
            exact e_z (u := [(h0, .inr (12, vs)), (b7, .inl (g.2.1 1, 11, .inl rL)), (b12, .inl (g.2.1 1, 132, .inl rA)), (b13, .inl (g.2.1 1, 132, .inl rB)), (b17, .inl (g.2.1 3, 132, .inl rO))]) X hQ hr (hW) rfl [1, 0, 2, 3, 4] rfl rfl (⟨hF.symm, rfl⟩) ⟨Nat.le_of_ble_eq_true rfl, Nat.le_of_ble_eq_true rfl⟩ dX12_isBeside_46
  exact loop1 (lc + 1) 0  (by omega) (by omega) (show F_X12_isBeside rA rB rO i lc a b = L1_X12_isBeside rA rB rO i lc a b (lc + 1) 0  from rfl).symm _ _ _ hW (lv_sub hl [0, 1, 2, 3, 4] rfl)

def L1_X12_isTrees (rO : Nat → Int32) (i : Nat) (j1 : Nat) (x2_1 : Int32) : Int32 := if rO (12 * i + j1) = 0 then (x2_1 + (1 : Int32)) else (x2_1 + (0 : Int32))
def L1_X12_isTree (rO : Nat → Int32) (i : Nat) (i0_ : Int32) : Nat → Int32
  | 0 => (i0_)
  | k_ + 1 => L1_X12_isTrees rO i k_ (L1_X12_isTree rO i i0_ k_)
def F_X12_isTree (rP : Nat → Int32) (rA : Nat → Int32) (rB : Nat → Int32) (rO : Nat → Int32) (i : Nat) (lc : Nat) : Int32 := if (L1_X12_isTree rO i (0 : Int32) lc) = (rP i) - (1 : Int32) then (if F_X12_holdsAll rP rA rB rO lc i = 0 then ((0 : Int32)) else ((1 : Int32))) else ((0 : Int32))
set_option maxHeartbeats 4000000 in
set_option maxRecDepth 100000 in
theorem K_X12_isTree (l : Launch) (g : GG) (h0 : Nat) (vs : List Value) (b6 : Nat) (rP : Nat → Int32) (b7 : Nat) (rL : Nat → Int32) (b12 : Nat) (rA : Nat → Int32) (b13 : Nat) (rB : Nat → Int32) (b17 : Nat) (rO : Nat → Int32) (i : Nat) (lc : Nat) (hlen : vs.length = 64) (h6_ : vs[6]? = some (.ref b6)) (h7_ : vs[7]? = some (.ref b7)) (h12_ : vs[12]? = some (.ref b12)) (h13_ : vs[13]? = some (.ref b13)) (h17_ : vs[17]? = some (.ref b17)) (hi : i < 11) (hlc : lc ≤ 12) (hL : rL i = nI lc) : MetI l g yX12_isTree cX12_isTree 4 (some .boolean) 2 0 0 [.ref h0, .int (nI i)] [(h0, .inr (12, vs)), (b6, .inl (g.2.1 1, 11, .inl rP)), (b7, .inl (g.2.1 1, 11, .inl rL)), (b12, .inl (g.2.1 1, 132, .inl rA)), (b13, .inl (g.2.1 1, 132, .inl rB)), (b17, .inl (g.2.1 3, 132, .inl rO))] (fun r u => r = (F_X12_isTree rP rA rB rO i lc) ∧ u = [(h0, .inr (12, vs)), (b6, .inl (g.2.1 1, 11, .inl rP)), (b7, .inl (g.2.1 1, 11, .inl rL)), (b12, .inl (g.2.1 1, 132, .inl rA)), (b13, .inl (g.2.1 1, 132, .inl rB)), (b17, .inl (g.2.1 3, 132, .inl rO))]) := by
  refine MetI.of (own := RX12) rfl (by decide) (Nat.le_of_ble_eq_true rfl) ?_
  intro p e s m below meth c A ls args Q hQ X hr hin hW hl
  have hx := X.1
  have hb := X.2.1
  have hl : lv_has ls 4 [(0, .ref h0), (1, .int (nI i))] := hl
  refine lv_iconst (v := 0) (pc := 0) hx hb dX12_isTree_0 (by decide) ?_
  refine lv_istore_n (lv' := [(2, .int 0), (0, .ref h0), (1, .int (nI i))]) (pc := 1) hx hb dX12_isTree_1 rfl hl (by decide) rfl (fun ls hl => ?_)
  refine lv_iconst (v := 0) (pc := 2) hx hb dX12_isTree_2 (by decide) ?_
  refine lv_istore_n (lv' := [(3, .int 0), (2, .int 0), (0, .ref h0), (1, .int (nI i))]) (pc := 3) hx hb dX12_isTree_3 rfl hl (by decide) rfl (fun ls hl => ?_)
  have loop1 : ∀ (fu1 : Nat) (j1 : Nat) (x2_1 : Int32), (lc < fu1 + j1) → (j1 ≤ lc) → (x2_1 = L1_X12_isTree rO i (0 : Int32) j1) → ∀ (H : Heap) (locs : List Loc) (ls : Array Slot), WD g A s H locs [(h0, .inr (12, vs)), (b6, .inl (g.2.1 1, 11, .inl rP)), (b7, .inl (g.2.1 1, 11, .inl rL)), (b12, .inl (g.2.1 1, 132, .inl rA)), (b13, .inl (g.2.1 1, 132, .inl rB)), (b17, .inl (g.2.1 3, 132, .inl rO))] → lv_has ls 4 [(3, .int (nI j1)), (2, .int x2_1), (0, .ref h0), (1, .int (nI i))] → W p l e (RM 2 0 0) s m args below meth c H locs 0 0 Q (F0 m 4 ls []) := by
    intro fu1
    induction fu1 with
    | zero =>
      intro j1 x2_1 hm1 hj1 hst1
      exact absurd hm1 (by omega)
    | succ fu1 ih1 =>
      intro j1 x2_1 hm1 hj1 hst1 H locs ls hW hl
      refine lv_iload_n (pc := 4) hx hb dX12_isTree_4 rfl (lv_at hl 0 rfl) ?_
      refine lv_aload_n (pc := 5) hx hb dX12_isTree_5 rfl (lv_at hl 2 rfl) ?_
      refine r_get X hW 0 ciX12 7 rfl (by decide) m_1238 rfl h7_ dX12_isTree_6 ?_
      refine lv_iload_n (pc := 9) hx hb dX12_isTree_9 rfl (lv_at hl 3 rfl) ?_
      refine r_iald X hW 2 rfl (vp_in_nI (by omega) (by decide)) dX12_isTree_10 ?_
      refine lv_topi (fun v1 ev1 => ?_)
      obtain rfl : v1 = rL i := ev1.trans (by rw [nI_clamp (by omega)])
      rw [hL]
      refine lv_icmp_ge (tgt := 42) (pc := 11) hx hb dX12_isTree_11 rfl (fun c2 => ?_) (fun c2 => ?_)
      · have h3 : lc ≤ j1 := (nI_leI (a := lc) (b := j1) (by omega) (by omega)).mp c2
        have hN1 : j1 = lc := by omega
        rw [hN1] at hst1
        subst hst1
        have hW : WD g A s _ _ [(h0, .inr (12, vs)), (b6, .inl (g.2.1 1, 11, .inl rP)), (b7, .inl (g.2.1 1, 11, .inl rL)), (b12, .inl (g.2.1 1, 132, .inl rA)), (b13, .inl (g.2.1 1, 132, .inl rB)), (b17, .inl (g.2.1 3, 132, .inl rO))] := hW
        refine lv_iload_n (pc := 42) hx hb dX12_isTree_42 rfl (lv_at hl 1 rfl) ?_
        refine lv_aload_n (pc := 43) hx hb dX12_isTree_43 rfl (lv_at hl 2 rfl) ?_
        refine r_get X hW 0 ciX12 6 rfl (by decide) m_1237 rfl h6_ dX12_isTree_44 ?_
        refine lv_iload_n (pc := 47) hx hb dX12_isTree_47 rfl (lv_at hl 3 rfl) ?_
        refine r_iald X hW 1 rfl (vp_in_nI (by omega) (by decide)) dX12_isTree_48 ?_
        refine lv_topi (fun v4 ev4 => ?_)
        obtain rfl : v4 = rP i := ev4.trans (by rw [nI_clamp (by omega)])
        refine lv_iconst (v := 1) (pc := 49) hx hb dX12_isTree_49 (by decide) ?_
        refine lv_isub (pc := 50) hx hb dX12_isTree_50 ?_
        refine lv_icmp_ne (tgt := 66) (pc := 51) hx hb dX12_isTree_51 rfl (fun c5 => ?_) (fun c5 => ?_)
        · refine lv_iconst (v := 0) (pc := 66) hx hb dX12_isTree_66 (by decide) ?_
          have hF : F_X12_isTree rP rA rB rO i lc = (0 : Int32) := show F_X12_isTree rP rA rB rO i lc = (0 : Int32) from by rw [F_X12_isTree, if_neg c5]
          exact e_z (u := [(h0, .inr (12, vs)), (b6, .inl (g.2.1 1, 11, .inl rP)), (b7, .inl (g.2.1 1, 11, .inl rL)), (b12, .inl (g.2.1 1, 132, .inl rA)), (b13, .inl (g.2.1 1, 132, .inl rB)), (b17, .inl (g.2.1 3, 132, .inl rO))]) X hQ hr (hW) rfl [0, 1, 2, 3, 4, 5] rfl rfl (⟨hF.symm, rfl⟩) ⟨Nat.le_of_ble_eq_true rfl, Nat.le_of_ble_eq_true rfl⟩ dX12_isTree_67
        · refine lv_aload_n (pc := 54) hx hb dX12_isTree_54 rfl (lv_at hl 2 rfl) ?_
          refine lv_iload_n (pc := 55) hx hb dX12_isTree_55 rfl (lv_at hl 3 rfl) ?_
          refine c_Vi (pc := 56) (As := [.int (nI i)]) (rest := []) (wr := []) X hW 0 ciX12 rfl (K_X12_holdsAll l g h0 vs b6 rP b7 rL b12 rA b13 rB b17 rO lc i hlen h6_ h7_ h12_ h13_ h17_ (by omega) hlc hL) vX12_349 [0, 1, 2, 3, 4, 5] [] rfl rfl rfl rfl rfl rfl hl.1 rfl (Nat.le_of_ble_eq_true rfl) ⟨Nat.le_of_ble_eq_true rfl, Nat.le_of_ble_eq_true rfl⟩ ⟨Nat.le_of_ble_eq_true rfl, Nat.le_of_ble_eq_true rfl⟩ dX12_isTree_56 (fun r8 u9 H locs hq hW => ?_)
          obtain ⟨rfl, rfl⟩ := hq
          have hW : WD g A s _ _ [(h0, .inr (12, vs)), (b6, .inl (g.2.1 1, 11, .inl rP)), (b7, .inl (g.2.1 1, 11, .inl rL)), (b12, .inl (g.2.1 1, 132, .inl rA)), (b13, .inl (g.2.1 1, 132, .inl rB)), (b17, .inl (g.2.1 3, 132, .inl rO))] := hW
          refine lv_if_eq (tgt := 66) (pc := 59) hx hb dX12_isTree_59 rfl (fun c9 => ?_) (fun c9 => ?_)
          · refine lv_iconst (v := 0) (pc := 66) hx hb dX12_isTree_66 (by decide) ?_
            have hF : F_X12_isTree rP rA rB rO i lc = (0 : Int32) := show F_X12_isTree rP rA rB rO i lc = (0 : Int32) from by rw [F_X12_isTree, if_pos c5, if_pos c9]
            exact e_z (u := [(h0, .inr (12, vs)), (b6, .inl (g.2.1 1, 11, .inl rP)), (b7, .inl (g.2.1 1, 11, .inl rL)), (b12, .inl (g.2.1 1, 132, .inl rA)), (b13, .inl (g.2.1 1, 132, .inl rB)), (b17, .inl (g.2.1 3, 132, .inl rO))]) X hQ hr (hW) rfl [0, 1, 2, 3, 4, 5] rfl rfl (⟨hF.symm, rfl⟩) ⟨Nat.le_of_ble_eq_true rfl, Nat.le_of_ble_eq_true rfl⟩ dX12_isTree_67
          · refine lv_iconst (v := 1) (pc := 62) hx hb dX12_isTree_62 (by decide) ?_
            refine lv_goto (tgt := 67) (pc := 63) hx hb dX12_isTree_63 rfl ?_
            have hF : F_X12_isTree rP rA rB rO i lc = (1 : Int32) := show F_X12_isTree rP rA rB rO i lc = (1 : Int32) from by rw [F_X12_isTree, if_pos c5, if_neg c9]
            exact e_z (u := [(h0, .inr (12, vs)), (b6, .inl (g.2.1 1, 11, .inl rP)), (b7, .inl (g.2.1 1, 11, .inl rL)), (b12, .inl (g.2.1 1, 132, .inl rA)), (b13, .inl (g.2.1 1, 132, .inl rB)), (b17, .inl (g.2.1 3, 132, .inl rO))]) X hQ hr (hW) rfl [0, 1, 2, 3, 4, 5] rfl rfl (⟨hF.symm, rfl⟩) ⟨Nat.le_of_ble_eq_true rfl, Nat.le_of_ble_eq_true rfl⟩ dX12_isTree_67
      · have h12 : ¬ (lc ≤ j1) := fun q => c2 ((nI_leI (a := lc) (b := j1) (by omega) (by omega)).mpr q)
        refine lv_iload_n (pc := 14) hx hb dX12_isTree_14 rfl (lv_at hl 1 rfl) ?_
        refine lv_aload_n (pc := 15) hx hb dX12_isTree_15 rfl (lv_at hl 2 rfl) ?_
        refine r_get X hW 0 ciX12 17 rfl (by decide) m_1248 rfl h17_ dX12_isTree_16 ?_
        refine lv_bipush (v := 12) (pc := 19) hx hb dX12_isTree_19 (by decide) ?_
        refine lv_iload_n (pc := 21) hx hb dX12_isTree_21 rfl (lv_at hl 3 rfl) ?_
        refine lv_imul (pc := 22) hx hb dX12_isTree_22 ?_
        refine lv_topi (fun v13 ev13 => ?_)
        obtain rfl : v13 = nI (12 * i) := ev13.trans (pk_mul 12 i)
        refine lv_iload_n (pc := 23) hx hb dX12_isTree_23 rfl (lv_at hl 0 rfl) ?_
        refine lv_iadd (pc := 24) hx hb dX12_isTree_24 ?_
        refine lv_topi (fun v14 ev14 => ?_)
        obtain rfl : v14 = nI (12 * i + j1) := ev14.trans (nI_add _ _)
        refine r_zald X hW 5 rfl (vp_in_nI (by omega) (by decide)) dX12_isTree_25 ?_
        refine lv_topi (fun v15 ev15 => ?_)
        obtain rfl : v15 = rO (12 * i + j1) := ev15.trans (by rw [nI_clamp (by omega)])
        refine lv_if_eq (tgt := 33) (pc := 26) hx hb dX12_isTree_26 rfl (fun c16 => ?_) (fun c16 => ?_)
        · refine lv_iconst (v := 1) (pc := 33) hx hb dX12_isTree_33 (by decide) ?_
          refine lv_iadd (pc := 34) hx hb dX12_isTree_34 ?_
          refine lv_istore_n (lv' := [(2, .int (x2_1 + (1 : Int32))), (3, .int (nI j1)), (0, .ref h0), (1, .int (nI i))]) (pc := 35) hx hb dX12_isTree_35 rfl hl (by decide) rfl (fun ls hl => ?_)
          refine lv_iinc (v := nI (j1 + 1)) (lv' := [(3, .int (nI (j1 + 1))), (2, .int (x2_1 + (1 : Int32))), (0, .ref h0), (1, .int (nI i))]) (pc := 36) hx hb dX12_isTree_36 hl (k := 1) rfl (nI_add j1 1) (by decide) rfl (fun ls hl => ?_)
          refine lv_goto (tgt := 4) (pc := 39) hx hb dX12_isTree_39 rfl ?_
          exact ih1 (j1 + 1) (x2_1 + (1 : Int32)) (by omega) (by omega) (by rw [L1_X12_isTree, ← hst1]; exact (show L1_X12_isTrees rO i j1 x2_1 = x2_1 + (1 : Int32) from by rw [L1_X12_isTrees, if_pos c16]).symm) _ _ _ hW (lv_sub hl [0, 1, 2, 3] rfl)
        · refine lv_iconst (v := 0) (pc := 29) hx hb dX12_isTree_29 (by decide) ?_
          refine lv_goto (tgt := 34) (pc := 30) hx hb dX12_isTree_30 rfl ?_
          refine lv_iadd (pc := 34) hx hb dX12_isTree_34 ?_
          refine lv_istore_n (lv' := [(2, .int (x2_1 + (0 : Int32))), (3, .int (nI j1)), (0, .ref h0), (1, .int (nI i))]) (pc := 35) hx hb dX12_isTree_35 rfl hl (by decide) rfl (fun ls hl => ?_)
          refine lv_iinc (v := nI (j1 + 1)) (lv' := [(3, .int (nI (j1 + 1))), (2, .int (x2_1 + (0 : Int32))), (0, .ref h0), (1, .int (nI i))]) (pc := 36) hx hb dX12_isTree_36 hl (k := 1) rfl (nI_add j1 1) (by decide) rfl (fun ls hl => ?_)
          refine lv_goto (tgt := 4) (pc := 39) hx hb dX12_isTree_39 rfl ?_
          exact ih1 (j1 + 1) (x2_1 + (0 : Int32)) (by omega) (by omega) (by rw [L1_X12_isTree, ← hst1]; exact (show L1_X12_isTrees rO i j1 x2_1 = x2_1 + (0 : Int32) from by rw [L1_X12_isTrees, if_neg c16]).symm) _ _ _ hW (lv_sub hl [0, 1, 2, 3] rfl)
  exact loop1 (lc + 1) 0 (0 : Int32) (by omega) (by omega) rfl _ _ _ hW (lv_sub hl [0, 1, 2, 3] rfl)

/-- what is written of a tree: whose rows are in their places -/
def RNB (B : Nat → Int32) : Prop := ∀ j : Nat, j < 49 → B j = nI (tN (B j)) ∧ tN (B j) < 7
def RNM (M : Nat → Int32) : Prop := ∀ j : Nat, j < 7 → M j = nI (tN (M j)) ∧ tN (M j) ≤ 7
abbrev LTF : Type := Nat → Int32 → (Nat → Int32) → (Nat → Int32) → (Nat → Int32) → (Nat → Int32) × (Nat → Int32) × (Nat → Int32)
theorem rnb_up {B : Nat → Int32} {k : Nat} {x : Int32} (h : RNB B) (hx : x = nI (tN x) ∧ tN x < 7) : RNB (upd B k x) := fun j hj => by
  by_cases e : j = k
  · subst e; rw [upd_eq]; exact hx
  · rw [upd_ne e]; exact h j hj
theorem rnb_nI {B : Nat → Int32} {k x : Nat} (h : RNB B) (hx : x < 7) : RNB (upd B k (nI x)) := rnb_up h (by rw [tN_nI (by omega)]; exact ⟨rfl, hx⟩)
theorem rnm_0 {M : Nat → Int32} {k : Nat} (h : RNM M) : RNM (upd M k 0) := fun j hj => by
  by_cases e : j = k
  · subst e; rw [upd_eq]; exact ⟨rfl, Nat.zero_le _⟩
  · rw [upd_ne e]; exact h j hj
theorem rnm_1 {M : Nat → Int32} {k : Nat} (h : RNM M) (hk : k < 7) (h6 : tN (M k) ≤ 6) : RNM (upd M k (M k + 1)) ∧ tN (upd M k (M k + 1) k) = tN (M k) + 1 := by
  obtain ⟨a, b⟩ := in7 (h k hk).1 (by omega)
  refine ⟨fun j hj => ?_, by rw [upd_eq]; exact a⟩
  by_cases e : j = k
  · subst e; rw [upd_eq]; exact ⟨b, by omega⟩
  · rw [upd_ne e]; exact h j hj
theorem dk7 {x : Int32} (h : x = nI (tN x)) (hx : tN x ≤ 7) (h0 : 0 < tN x) : x + (-1) = nI (tN (x + (-1))) ∧ tN (x + (-1)) + 1 = tN x := by
  have e : x + (-1) = nI (tN x - 1) := by
    have := nI_d1 h0
    rw [← h, show Int32.ofInt (-1) = (-1 : Int32) from by decide] at this
    exact this
  rw [e, tN_nI (by omega)]
  exact ⟨rfl, by omega⟩
def L3_X12_layTree (on : Nat) (R : LTF) (j1 : Nat) (fb55_1 : Nat → Int32) (fb56_1 : Nat → Int32) (fb57_1 : Nat → Int32) : Nat → Nat → Int32 → (Nat → Int32) → Int32 × (Nat → Int32)
  | 0, _, x5_3, fb55_3 => (x5_3, fb55_3)
  | m_ + 1, j3, x5_3, fb55_3 => if nI (tN x5_3) ≤ 0 then ((x5_3, fb55_3)) else (if ((R j1 (nI on) fb55_1 fb56_1 fb57_1).2.2) j1 ≤ ((R j1 (nI on) fb55_1 fb56_1 fb57_1).2.2) (tN (fb55_3 (7 * on + tN x5_3 - 1))) then ((x5_3, fb55_3)) else (L3_X12_layTree on R j1 fb55_1 fb56_1 fb57_1 m_ (j3 + 1) (x5_3 + (-1)) (upd fb55_3 (7 * on + tN x5_3) (fb55_3 (7 * on + tN x5_3 - 1)))))
def L1_X12_layTrees (rA : Nat → Int32) (rB : Nat → Int32) (rO : Nat → Int32) (i : Nat) (lc : Nat) (on : Nat) (ab : Int32) (R : LTF) (j1 : Nat) (fb55_1 : Nat → Int32) (fb56_1 : Nat → Int32) (fb57_1 : Nat → Int32) : (Nat → Int32) × (Nat → Int32) × (Nat → Int32) := if nI j1 = ab then ((fb55_1, fb56_1, fb57_1)) else (if nI j1 = nI on then ((fb55_1, fb56_1, fb57_1)) else (if F_X12_isBeside rA rB rO i lc on j1 = 0 then ((fb55_1, fb56_1, fb57_1)) else (((upd ((L3_X12_layTree on R j1 fb55_1 fb56_1 fb57_1 ((tN ((R j1 (nI on) fb55_1 fb56_1 fb57_1).2.1 on)) + 1) 0 (nI (tN ((R j1 (nI on) fb55_1 fb56_1 fb57_1).2.1 on))) ((R j1 (nI on) fb55_1 fb56_1 fb57_1).1)).2) (7 * on + tN ((L3_X12_layTree on R j1 fb55_1 fb56_1 fb57_1 ((tN ((R j1 (nI on) fb55_1 fb56_1 fb57_1).2.1 on)) + 1) 0 (nI (tN ((R j1 (nI on) fb55_1 fb56_1 fb57_1).2.1 on))) ((R j1 (nI on) fb55_1 fb56_1 fb57_1).1)).1)) (nI j1)), (upd ((R j1 (nI on) fb55_1 fb56_1 fb57_1).2.1) on ((((R j1 (nI on) fb55_1 fb56_1 fb57_1).2.1) on) + (1 : Int32))), (R j1 (nI on) fb55_1 fb56_1 fb57_1).2.2))))
def L1_X12_layTree (rA : Nat → Int32) (rB : Nat → Int32) (rO : Nat → Int32) (i : Nat) (lc : Nat) (on : Nat) (ab : Int32) (R : LTF) (i0_ : Nat → Int32) (i1_ : Nat → Int32) (i2_ : Nat → Int32) : Nat → (Nat → Int32) × (Nat → Int32) × (Nat → Int32)
  | 0 => (i0_, i1_, i2_)
  | k_ + 1 => L1_X12_layTrees rA rB rO i lc on ab R k_ ((L1_X12_layTree rA rB rO i lc on ab R i0_ i1_ i2_ k_).1) ((L1_X12_layTree rA rB rO i lc on ab R i0_ i1_ i2_ k_).2.1) ((L1_X12_layTree rA rB rO i lc on ab R i0_ i1_ i2_ k_).2.2)
def L2_X12_layTrees (rA : Nat → Int32) (rB : Nat → Int32) (rO : Nat → Int32) (gB : Nat → Int32) (gM : Nat → Int32) (gT : Nat → Int32) (i : Nat) (lc : Nat) (pe : Nat) (on : Nat) (ab : Int32) (R : LTF) (j2 : Nat) (fb57_2 : Nat → Int32) : (Nat → Int32) := (upd fb57_2 on (mx2 (fb57_2 on) ((nI (j2 + 1)) + (fb57_2 (tN (((L1_X12_layTree rA rB rO i lc on ab R gB (upd gM on (0 : Int32)) (upd gT on (0 : Int32)) pe).1) (7 * on + j2)))))))
def L2_X12_layTree (rA : Nat → Int32) (rB : Nat → Int32) (rO : Nat → Int32) (gB : Nat → Int32) (gM : Nat → Int32) (gT : Nat → Int32) (i : Nat) (lc : Nat) (pe : Nat) (on : Nat) (ab : Int32) (R : LTF) (i0_ : Nat → Int32) : Nat → (Nat → Int32)
  | 0 => (i0_)
  | k_ + 1 => L2_X12_layTrees rA rB rO gB gM gT i lc pe on ab R k_ (L2_X12_layTree rA rB rO gB gM gT i lc pe on ab R i0_ k_)
def F_X12_layTree (rA : Nat → Int32) (rB : Nat → Int32) (rO : Nat → Int32) (gB : Nat → Int32) (gM : Nat → Int32) (gT : Nat → Int32) (i : Nat) (lc : Nat) (pe : Nat) (on : Nat) (ab : Int32) (R : LTF) : (Nat → Int32) × (Nat → Int32) × (Nat → Int32) := (((L1_X12_layTree rA rB rO i lc on ab R gB (upd gM on (0 : Int32)) (upd gT on (0 : Int32)) pe).1), ((L1_X12_layTree rA rB rO i lc on ab R gB (upd gM on (0 : Int32)) (upd gT on (0 : Int32)) pe).2.1), (L2_X12_layTree rA rB rO gB gM gT i lc pe on ab R ((L1_X12_layTree rA rB rO i lc on ab R gB (upd gM on (0 : Int32)) (upd gT on (0 : Int32)) pe).2.2) (tN (((L1_X12_layTree rA rB rO i lc on ab R gB (upd gM on (0 : Int32)) (upd gT on (0 : Int32)) pe).2.1) on))))
set_option maxHeartbeats 4000000 in
set_option maxRecDepth 100000 in
theorem K_X12_layTree (l : Launch) (g : GG) (h0 : Nat) (vs : List Value) (b6 : Nat) (rP : Nat → Int32) (b7 : Nat) (rL : Nat → Int32) (b12 : Nat) (rA : Nat → Int32) (b13 : Nat) (rB : Nat → Int32) (b17 : Nat) (rO : Nat → Int32) (b55 : Nat) (gB : Nat → Int32) (b56 : Nat) (gM : Nat → Int32) (b57 : Nat) (gT : Nat → Int32) (i : Nat) (lc : Nat) (pe : Nat) (f : Nat) (on : Nat) (ab : Int32) (Wr : Nat → Prop) (R : LTF) (dd : Nat) (hdd : 6 ≤ dd) (hlen : vs.length = 64) (h6_ : vs[6]? = some (.ref b6)) (h7_ : vs[7]? = some (.ref b7)) (h12_ : vs[12]? = some (.ref b12)) (h13_ : vs[13]? = some (.ref b13)) (h17_ : vs[17]? = some (.ref b17)) (h55_ : vs[55]? = some (.ref b55)) (h56_ : vs[56]? = some (.ref b56)) (h57_ : vs[57]? = some (.ref b57)) (hi : i < 11) (hlc : lc ≤ 12) (hL : rL i = nI lc) (hpe : pe ≤ 7) (hP : rP i = nI pe) (hTP : TPl (fun a b => ¬ F_X12_isBeside rA rB rO i lc a b = 0) pe (f + 1) on ab Wr) (hB : RNB gB) (hM : RNM gM) (hrec : ∀ (B M T : Nat → Int32) (o : Nat) (ab : Int32) (Wr : Nat → Prop), TPl (fun a b => ¬ F_X12_isBeside rA rB rO i lc a b = 0) pe f o ab Wr → RNB B → RNM M → MetV l g yX12_layTree cX12_layTree 6 none dd 0 0 [.ref h0, .int (nI i), .int (nI o), .int ab] [(h0, .inr (12, vs)), (b6, .inl (g.2.1 1, 11, .inl rP)), (b7, .inl (g.2.1 1, 11, .inl rL)), (b12, .inl (g.2.1 1, 132, .inl rA)), (b13, .inl (g.2.1 1, 132, .inl rB)), (b17, .inl (g.2.1 3, 132, .inl rO)), (b55, .inl (g.2.1 1, 49, .inl B)), (b56, .inl (g.2.1 1, 7, .inl M)), (b57, .inl (g.2.1 1, 7, .inl T))] (fun u => u = [(h0, .inr (12, vs)), (b6, .inl (g.2.1 1, 11, .inl rP)), (b7, .inl (g.2.1 1, 11, .inl rL)), (b12, .inl (g.2.1 1, 132, .inl rA)), (b13, .inl (g.2.1 1, 132, .inl rB)), (b17, .inl (g.2.1 3, 132, .inl rO)), (b55, .inl (g.2.1 1, 49, .inl ((R o ab B M T).1))), (b56, .inl (g.2.1 1, 7, .inl ((R o ab B M T).2.1))), (b57, .inl (g.2.1 1, 7, .inl ((R o ab B M T).2.2)))])) (hR : ∀ (B M T : Nat → Int32) (o : Nat) (ab : Int32) (Wr : Nat → Prop), TPl (fun a b => ¬ F_X12_isBeside rA rB rO i lc a b = 0) pe f o ab Wr → RNB B → RNM M → RNB (R o ab B M T).1 ∧ RNM (R o ab B M T).2.1 ∧ ∀ y : Nat, ¬ Wr y → (R o ab B M T).2.1 y = M y) : MetV l g yX12_layTree cX12_layTree 6 none (dd + 1) 0 0 [.ref h0, .int (nI i), .int (nI on), .int ab] [(h0, .inr (12, vs)), (b6, .inl (g.2.1 1, 11, .inl rP)), (b7, .inl (g.2.1 1, 11, .inl rL)), (b12, .inl (g.2.1 1, 132, .inl rA)), (b13, .inl (g.2.1 1, 132, .inl rB)), (b17, .inl (g.2.1 3, 132, .inl rO)), (b55, .inl (g.2.1 1, 49, .inl gB)), (b56, .inl (g.2.1 1, 7, .inl gM)), (b57, .inl (g.2.1 1, 7, .inl gT))] (fun u => u = [(h0, .inr (12, vs)), (b6, .inl (g.2.1 1, 11, .inl rP)), (b7, .inl (g.2.1 1, 11, .inl rL)), (b12, .inl (g.2.1 1, 132, .inl rA)), (b13, .inl (g.2.1 1, 132, .inl rB)), (b17, .inl (g.2.1 3, 132, .inl rO)), (b55, .inl (g.2.1 1, 49, .inl ((F_X12_layTree rA rB rO gB gM gT i lc pe on ab R).1))), (b56, .inl (g.2.1 1, 7, .inl ((F_X12_layTree rA rB rO gB gM gT i lc pe on ab R).2.1))), (b57, .inl (g.2.1 1, 7, .inl ((F_X12_layTree rA rB rO gB gM gT i lc pe on ab R).2.2)))]) := by
  refine MetV.of (own := RX12) rfl (by decide) (Nat.le_of_ble_eq_true rfl) ?_
  intro p e s m below meth c A ls args Q hQ X hr hin hW hl
  have hx := X.1
  have hb := X.2.1
  have hl : lv_has ls 6 [(0, .ref h0), (1, .int (nI i)), (2, .int (nI on)), (3, .int ab)] := hl
  have hon := hTP.1
  refine lv_aload_n (pc := 0) hx hb dX12_layTree_0 rfl (lv_at hl 0 rfl) ?_
  refine r_get X hW 0 ciX12 56 rfl (by decide) m_1283 rfl h56_ dX12_layTree_1 ?_
  refine lv_iload_n (pc := 4) hx hb dX12_layTree_4 rfl (lv_at hl 2 rfl) ?_
  refine lv_iconst (v := 0) (pc := 5) hx hb dX12_layTree_5 (by decide) ?_
  refine r_iast (ws' := [(h0, .inr (12, vs)), (b6, .inl (g.2.1 1, 11, .inl rP)), (b7, .inl (g.2.1 1, 11, .inl rL)), (b12, .inl (g.2.1 1, 132, .inl rA)), (b13, .inl (g.2.1 1, 132, .inl rB)), (b17, .inl (g.2.1 3, 132, .inl rO)), (b55, .inl (g.2.1 1, 49, .inl gB)), (b56, .inl (g.2.1 1, 7, .inl (upd gM on (0 : Int32)))), (b57, .inl (g.2.1 1, 7, .inl gT))]) X hW 7 rfl (vp_in_nI (by omega) (by decide)) (f' := (upd gM on (0 : Int32))) (by rw [nI_clamp (by omega)]) rfl dX12_layTree_6 (fun H locs hW => ?_)
  refine lv_aload_n (pc := 7) hx hb dX12_layTree_7 rfl (lv_at hl 0 rfl) ?_
  refine r_get X hW 0 ciX12 57 rfl (by decide) m_1284 rfl h57_ dX12_layTree_8 ?_
  refine lv_iload_n (pc := 11) hx hb dX12_layTree_11 rfl (lv_at hl 2 rfl) ?_
  refine lv_iconst (v := 0) (pc := 12) hx hb dX12_layTree_12 (by decide) ?_
  refine r_iast (ws' := [(h0, .inr (12, vs)), (b6, .inl (g.2.1 1, 11, .inl rP)), (b7, .inl (g.2.1 1, 11, .inl rL)), (b12, .inl (g.2.1 1, 132, .inl rA)), (b13, .inl (g.2.1 1, 132, .inl rB)), (b17, .inl (g.2.1 3, 132, .inl rO)), (b55, .inl (g.2.1 1, 49, .inl gB)), (b56, .inl (g.2.1 1, 7, .inl (upd gM on (0 : Int32)))), (b57, .inl (g.2.1 1, 7, .inl (upd gT on (0 : Int32))))]) X hW 8 rfl (vp_in_nI (by omega) (by decide)) (f' := (upd gT on (0 : Int32))) (by rw [nI_clamp (by omega)]) rfl dX12_layTree_13 (fun H locs hW => ?_)
  refine lv_iconst (v := 0) (pc := 14) hx hb dX12_layTree_14 (by decide) ?_
  refine lv_istore (lv' := [(4, .int 0), (0, .ref h0), (1, .int (nI i)), (2, .int (nI on)), (3, .int ab)]) (pc := 15) hx hb dX12_layTree_15 hl (by decide) rfl (fun ls hl => ?_)
  have loop1 : ∀ (fu1 : Nat) (j1 : Nat) (fb55_1 : Nat → Int32) (fb56_1 : Nat → Int32) (fb57_1 : Nat → Int32), (pe < fu1 + j1) → (j1 ≤ pe) → (RNB fb55_1) → (RNM fb56_1) → (tN (fb56_1 on) ≤ j1 ∧ (on < j1 → tN (fb56_1 on) + 1 ≤ j1)) → ((fb55_1, fb56_1, fb57_1) = L1_X12_layTree rA rB rO i lc on ab R gB (upd gM on (0 : Int32)) (upd gT on (0 : Int32)) j1) → ∀ (H : Heap) (locs : List Loc) (ls : Array Slot), WD g A s H locs [(h0, .inr (12, vs)), (b6, .inl (g.2.1 1, 11, .inl rP)), (b7, .inl (g.2.1 1, 11, .inl rL)), (b12, .inl (g.2.1 1, 132, .inl rA)), (b13, .inl (g.2.1 1, 132, .inl rB)), (b17, .inl (g.2.1 3, 132, .inl rO)), (b55, .inl (g.2.1 1, 49, .inl fb55_1)), (b56, .inl (g.2.1 1, 7, .inl fb56_1)), (b57, .inl (g.2.1 1, 7, .inl fb57_1))] → lv_has ls 6 [(4, .int (nI j1)), (0, .ref h0), (1, .int (nI i)), (2, .int (nI on)), (3, .int ab)] → W p l e (RM (dd + 1) 0 0) s m args below meth c H locs 0 0 Q (F0 m 17 ls []) := by
    intro fu1
    induction fu1 with
    | zero =>
      intro j1 fb55_1 fb56_1 fb57_1 hm1 hj1 hrB1 hrM1 hcn1 hst1
      exact absurd hm1 (by omega)
    | succ fu1 ih1 =>
      intro j1 fb55_1 fb56_1 fb57_1 hm1 hj1 hrB1 hrM1 hcn1 hst1 H locs ls hW hl
      refine lv_iload (pc := 17) hx hb dX12_layTree_17 (lv_at hl 0 rfl) ?_
      refine lv_aload_n (pc := 19) hx hb dX12_layTree_19 rfl (lv_at hl 1 rfl) ?_
      refine r_get X hW 0 ciX12 6 rfl (by decide) m_1237 rfl h6_ dX12_layTree_20 ?_
      refine lv_iload_n (pc := 23) hx hb dX12_layTree_23 rfl (lv_at hl 2 rfl) ?_
      refine r_iald X hW 1 rfl (vp_in_nI (by omega) (by decide)) dX12_layTree_24 ?_
      refine lv_topi (fun v1 ev1 => ?_)
      obtain rfl : v1 = rP i := ev1.trans (by rw [nI_clamp (by omega)])
      rw [hP]
      refine lv_icmp_ge (tgt := 166) (pc := 25) hx hb dX12_layTree_25 rfl (fun c2 => ?_) (fun c2 => ?_)
      · have h3 : pe ≤ j1 := (nI_leI (a := pe) (b := j1) (by omega) (by omega)).mp c2
        have hN1 : j1 = pe := by omega
        rw [hN1] at hst1
        have hs1_0 : fb55_1 = (L1_X12_layTree rA rB rO i lc on ab R gB (upd gM on (0 : Int32)) (upd gT on (0 : Int32)) pe).1 := congrArg (fun z => z.1) hst1
        have hs1_1 : fb56_1 = (L1_X12_layTree rA rB rO i lc on ab R gB (upd gM on (0 : Int32)) (upd gT on (0 : Int32)) pe).2.1 := congrArg (fun z => z.2.1) hst1
        have hs1_2 : fb57_1 = (L1_X12_layTree rA rB rO i lc on ab R gB (upd gM on (0 : Int32)) (upd gT on (0 : Int32)) pe).2.2 := congrArg (fun z => z.2.2) hst1
        clear hst1
        subst hs1_0
        subst hs1_1
        subst hs1_2
        have hW : WD g A s _ _ [(h0, .inr (12, vs)), (b6, .inl (g.2.1 1, 11, .inl rP)), (b7, .inl (g.2.1 1, 11, .inl rL)), (b12, .inl (g.2.1 1, 132, .inl rA)), (b13, .inl (g.2.1 1, 132, .inl rB)), (b17, .inl (g.2.1 3, 132, .inl rO)), (b55, .inl (g.2.1 1, 49, .inl ((L1_X12_layTree rA rB rO i lc on ab R gB (upd gM on (0 : Int32)) (upd gT on (0 : Int32)) pe).1))), (b56, .inl (g.2.1 1, 7, .inl ((L1_X12_layTree rA rB rO i lc on ab R gB (upd gM on (0 : Int32)) (upd gT on (0 : Int32)) pe).2.1))), (b57, .inl (g.2.1 1, 7, .inl ((L1_X12_layTree rA rB rO i lc on ab R gB (upd gM on (0 : Int32)) (upd gT on (0 : Int32)) pe).2.2)))] := hW
        refine lv_iconst (v := 0) (pc := 166) hx hb dX12_layTree_166 (by decide) ?_
        refine lv_istore (lv' := [(4, .int 0), (0, .ref h0), (1, .int (nI i)), (2, .int (nI on)), (3, .int ab)]) (pc := 167) hx hb dX12_layTree_167 hl (by decide) rfl (fun ls hl => ?_)
        have loop2 : ∀ (fu2 : Nat) (j2 : Nat) (fb57_2 : Nat → Int32), ((tN (((L1_X12_layTree rA rB rO i lc on ab R gB (upd gM on (0 : Int32)) (upd gT on (0 : Int32)) pe).2.1) on)) < fu2 + j2) → (j2 ≤ (tN (((L1_X12_layTree rA rB rO i lc on ab R gB (upd gM on (0 : Int32)) (upd gT on (0 : Int32)) pe).2.1) on))) → (fb57_2 = L2_X12_layTree rA rB rO gB gM gT i lc pe on ab R ((L1_X12_layTree rA rB rO i lc on ab R gB (upd gM on (0 : Int32)) (upd gT on (0 : Int32)) pe).2.2) j2) → ∀ (H : Heap) (locs : List Loc) (ls : Array Slot), WD g A s H locs [(h0, .inr (12, vs)), (b6, .inl (g.2.1 1, 11, .inl rP)), (b7, .inl (g.2.1 1, 11, .inl rL)), (b12, .inl (g.2.1 1, 132, .inl rA)), (b13, .inl (g.2.1 1, 132, .inl rB)), (b17, .inl (g.2.1 3, 132, .inl rO)), (b55, .inl (g.2.1 1, 49, .inl ((L1_X12_layTree rA rB rO i lc on ab R gB (upd gM on (0 : Int32)) (upd gT on (0 : Int32)) pe).1))), (b56, .inl (g.2.1 1, 7, .inl ((L1_X12_layTree rA rB rO i lc on ab R gB (upd gM on (0 : Int32)) (upd gT on (0 : Int32)) pe).2.1))), (b57, .inl (g.2.1 1, 7, .inl fb57_2))] → lv_has ls 6 [(4, .int (nI j2)), (0, .ref h0), (1, .int (nI i)), (2, .int (nI on)), (3, .int ab)] → W p l e (RM (dd + 1) 0 0) s m args below meth c H locs 0 0 Q (F0 m 169 ls []) := by
          intro fu2
          induction fu2 with
          | zero =>
            intro j2 fb57_2 hm2 hj2 hst2
            exact absurd hm2 (by omega)
          | succ fu2 ih2 =>
            intro j2 fb57_2 hm2 hj2 hst2 H locs ls hW hl
            refine lv_iload (pc := 169) hx hb dX12_layTree_169 (lv_at hl 0 rfl) ?_
            refine lv_aload_n (pc := 171) hx hb dX12_layTree_171 rfl (lv_at hl 1 rfl) ?_
            refine r_get X hW 0 ciX12 56 rfl (by decide) m_1283 rfl h56_ dX12_layTree_172 ?_
            refine lv_iload_n (pc := 175) hx hb dX12_layTree_175 rfl (lv_at hl 3 rfl) ?_
            refine r_iald X hW 7 rfl (vp_in_nI (by omega) (by decide)) dX12_layTree_176 ?_
            refine lv_topi (fun v4 ev4 => ?_)
            obtain rfl : v4 = ((L1_X12_layTree rA rB rO i lc on ab R gB (upd gM on (0 : Int32)) (upd gT on (0 : Int32)) pe).2.1) on := ev4.trans (by rw [nI_clamp (by omega)])
            rw [(hrM1 on (by omega)).1]
            have hcf : tN (((L1_X12_layTree rA rB rO i lc on ab R gB (upd gM on (0 : Int32)) (upd gT on (0 : Int32)) pe).2.1) on) ≤ 6 := by have := (hrM1 on (by omega)).2; omega
            refine lv_icmp_ge (tgt := 223) (pc := 177) hx hb dX12_layTree_177 rfl (fun c5 => ?_) (fun c5 => ?_)
            · have h6 : (tN (((L1_X12_layTree rA rB rO i lc on ab R gB (upd gM on (0 : Int32)) (upd gT on (0 : Int32)) pe).2.1) on)) ≤ j2 := (nI_leI (a := (tN (((L1_X12_layTree rA rB rO i lc on ab R gB (upd gM on (0 : Int32)) (upd gT on (0 : Int32)) pe).2.1) on))) (b := j2) (by omega) (by omega)).mp c5
              have hN2 : j2 = (tN (((L1_X12_layTree rA rB rO i lc on ab R gB (upd gM on (0 : Int32)) (upd gT on (0 : Int32)) pe).2.1) on)) := by omega
              rw [hN2] at hst2
              subst hst2
              have hW : WD g A s _ _ [(h0, .inr (12, vs)), (b6, .inl (g.2.1 1, 11, .inl rP)), (b7, .inl (g.2.1 1, 11, .inl rL)), (b12, .inl (g.2.1 1, 132, .inl rA)), (b13, .inl (g.2.1 1, 132, .inl rB)), (b17, .inl (g.2.1 3, 132, .inl rO)), (b55, .inl (g.2.1 1, 49, .inl ((L1_X12_layTree rA rB rO i lc on ab R gB (upd gM on (0 : Int32)) (upd gT on (0 : Int32)) pe).1))), (b56, .inl (g.2.1 1, 7, .inl ((L1_X12_layTree rA rB rO i lc on ab R gB (upd gM on (0 : Int32)) (upd gT on (0 : Int32)) pe).2.1))), (b57, .inl (g.2.1 1, 7, .inl (L2_X12_layTree rA rB rO gB gM gT i lc pe on ab R ((L1_X12_layTree rA rB rO i lc on ab R gB (upd gM on (0 : Int32)) (upd gT on (0 : Int32)) pe).2.2) (tN (((L1_X12_layTree rA rB rO i lc on ab R gB (upd gM on (0 : Int32)) (upd gT on (0 : Int32)) pe).2.1) on)))))] := hW
              have hF : F_X12_layTree rA rB rO gB gM gT i lc pe on ab R = (((L1_X12_layTree rA rB rO i lc on ab R gB (upd gM on (0 : Int32)) (upd gT on (0 : Int32)) pe).1), ((L1_X12_layTree rA rB rO i lc on ab R gB (upd gM on (0 : Int32)) (upd gT on (0 : Int32)) pe).2.1), (L2_X12_layTree rA rB rO gB gM gT i lc pe on ab R ((L1_X12_layTree rA rB rO i lc on ab R gB (upd gM on (0 : Int32)) (upd gT on (0 : Int32)) pe).2.2) (tN (((L1_X12_layTree rA rB rO i lc on ab R gB (upd gM on (0 : Int32)) (upd gT on (0 : Int32)) pe).2.1) on)))) := show F_X12_layTree rA rB rO gB gM gT i lc pe on ab R = (((L1_X12_layTree rA rB rO i lc on ab R gB (upd gM on (0 : Int32)) (upd gT on (0 : Int32)) pe).1), ((L1_X12_layTree rA rB rO i lc on ab R gB (upd gM on (0 : Int32)) (upd gT on (0 : Int32)) pe).2.1), (L2_X12_layTree rA rB rO gB gM gT i lc pe on ab R ((L1_X12_layTree rA rB rO i lc on ab R gB (upd gM on (0 : Int32)) (upd gT on (0 : Int32)) pe).2.2) (tN (((L1_X12_layTree rA rB rO i lc on ab R gB (upd gM on (0 : Int32)) (upd gT on (0 : Int32)) pe).2.1) on)))) from rfl
              exact e_v (u := [(h0, .inr (12, vs)), (b6, .inl (g.2.1 1, 11, .inl rP)), (b7, .inl (g.2.1 1, 11, .inl rL)), (b12, .inl (g.2.1 1, 132, .inl rA)), (b13, .inl (g.2.1 1, 132, .inl rB)), (b17, .inl (g.2.1 3, 132, .inl rO)), (b55, .inl (g.2.1 1, 49, .inl ((L1_X12_layTree rA rB rO i lc on ab R gB (upd gM on (0 : Int32)) (upd gT on (0 : Int32)) pe).1))), (b56, .inl (g.2.1 1, 7, .inl ((L1_X12_layTree rA rB rO i lc on ab R gB (upd gM on (0 : Int32)) (upd gT on (0 : Int32)) pe).2.1))), (b57, .inl (g.2.1 1, 7, .inl (L2_X12_layTree rA rB rO gB gM gT i lc pe on ab R ((L1_X12_layTree rA rB rO i lc on ab R gB (upd gM on (0 : Int32)) (upd gT on (0 : Int32)) pe).2.2) (tN (((L1_X12_layTree rA rB rO i lc on ab R gB (upd gM on (0 : Int32)) (upd gT on (0 : Int32)) pe).2.1) on)))))]) X hQ hr (hW) [0, 1, 2, 3, 4, 5, 6, 7, 8] rfl rfl (by rw [hF]) ⟨Nat.le_of_ble_eq_true rfl, Nat.le_of_ble_eq_true rfl⟩ dX12_layTree_223
            · have h7 : ¬ ((tN (((L1_X12_layTree rA rB rO i lc on ab R gB (upd gM on (0 : Int32)) (upd gT on (0 : Int32)) pe).2.1) on)) ≤ j2) := fun q => c5 ((nI_leI (a := (tN (((L1_X12_layTree rA rB rO i lc on ab R gB (upd gM on (0 : Int32)) (upd gT on (0 : Int32)) pe).2.1) on))) (b := j2) (by omega) (by omega)).mpr q)
              refine lv_aload_n (pc := 180) hx hb dX12_layTree_180 rfl (lv_at hl 1 rfl) ?_
              refine r_get X hW 0 ciX12 57 rfl (by decide) m_1284 rfl h57_ dX12_layTree_181 ?_
              refine lv_iload_n (pc := 184) hx hb dX12_layTree_184 rfl (lv_at hl 3 rfl) ?_
              refine lv_aload_n (pc := 185) hx hb dX12_layTree_185 rfl (lv_at hl 1 rfl) ?_
              refine r_get X hW 0 ciX12 57 rfl (by decide) m_1284 rfl h57_ dX12_layTree_186 ?_
              refine lv_iload_n (pc := 189) hx hb dX12_layTree_189 rfl (lv_at hl 3 rfl) ?_
              refine r_iald X hW 8 rfl (vp_in_nI (by omega) (by decide)) dX12_layTree_190 ?_
              refine lv_topi (fun v8 ev8 => ?_)
              obtain rfl : v8 = fb57_2 on := ev8.trans (by rw [nI_clamp (by omega)])
              refine lv_iload (pc := 191) hx hb dX12_layTree_191 (lv_at hl 0 rfl) ?_
              refine lv_iconst (v := 1) (pc := 193) hx hb dX12_layTree_193 (by decide) ?_
              refine lv_iadd (pc := 194) hx hb dX12_layTree_194 ?_
              refine lv_topi (fun v9 ev9 => ?_)
              obtain rfl : v9 = nI (j2 + 1) := ev9.trans (nI_add j2 1)
              refine lv_aload_n (pc := 195) hx hb dX12_layTree_195 rfl (lv_at hl 1 rfl) ?_
              refine r_get X hW 0 ciX12 57 rfl (by decide) m_1284 rfl h57_ dX12_layTree_196 ?_
              refine lv_aload_n (pc := 199) hx hb dX12_layTree_199 rfl (lv_at hl 1 rfl) ?_
              refine r_get X hW 0 ciX12 55 rfl (by decide) m_1282 rfl h55_ dX12_layTree_200 ?_
              refine lv_bipush (v := 7) (pc := 203) hx hb dX12_layTree_203 (by decide) ?_
              refine lv_iload_n (pc := 205) hx hb dX12_layTree_205 rfl (lv_at hl 3 rfl) ?_
              refine lv_imul (pc := 206) hx hb dX12_layTree_206 ?_
              refine lv_topi (fun v10 ev10 => ?_)
              obtain rfl : v10 = nI (7 * on) := ev10.trans (pk_mul 7 on)
              refine lv_iload (pc := 207) hx hb dX12_layTree_207 (lv_at hl 0 rfl) ?_
              refine lv_iadd (pc := 209) hx hb dX12_layTree_209 ?_
              refine lv_topi (fun v11 ev11 => ?_)
              obtain rfl : v11 = nI (7 * on + j2) := ev11.trans (nI_add _ _)
              refine r_iald X hW 6 rfl (vp_in_nI (by omega) (by decide)) dX12_layTree_210 ?_
              refine lv_topi (fun v12 ev12 => ?_)
              obtain rfl : v12 = ((L1_X12_layTree rA rB rO i lc on ab R gB (upd gM on (0 : Int32)) (upd gT on (0 : Int32)) pe).1) (7 * on + j2) := ev12.trans (by rw [nI_clamp (by omega)])
              have hb9 := hrB1 (7 * on + j2) (by omega)
              have hb92 := hb9.2
              rw [hb9.1]
              refine r_iald X hW 8 rfl (vp_in_nI (by omega) (by decide)) dX12_layTree_211 ?_
              refine lv_topi (fun v13 ev13 => ?_)
              obtain rfl : v13 = fb57_2 (tN (((L1_X12_layTree rA rB rO i lc on ab R gB (upd gM on (0 : Int32)) (upd gT on (0 : Int32)) pe).1) (7 * on + j2))) := ev13.trans (by rw [nI_clamp (by omega)])
              refine lv_iadd (pc := 212) hx hb dX12_layTree_212 ?_
              refine va_mmax (pc := 213) hx hb (X.2.2.1.trans hl.1.symm) X.2.2.2.1 (X.2.2.2.2.1 _ mm_X12_213) (X.2.2.2.2.1 _ mms_max) (X.2.2.2.2.1 _ m_19) (X.2.2.2.2.1 _ mmc_max) (by show _ ≤ dd + 1; omega) (Nat.le_trans (m := 280) (Nat.le_of_ble_eq_true rfl) (by show 280 ≤ 40 * (dd + 1); omega)) (Nat.le_of_ble_eq_true rfl) (Nat.le_of_ble_eq_true rfl) dX12_layTree_213 ?_
              refine lv_topi (fun v14 ev14 => ?_)
              obtain rfl : v14 = mx2 (fb57_2 on) ((nI (j2 + 1)) + (fb57_2 (tN (((L1_X12_layTree rA rB rO i lc on ab R gB (upd gM on (0 : Int32)) (upd gT on (0 : Int32)) pe).1) (7 * on + j2))))) := ev14.trans (rfl)
              refine r_iast (ws' := [(h0, .inr (12, vs)), (b6, .inl (g.2.1 1, 11, .inl rP)), (b7, .inl (g.2.1 1, 11, .inl rL)), (b12, .inl (g.2.1 1, 132, .inl rA)), (b13, .inl (g.2.1 1, 132, .inl rB)), (b17, .inl (g.2.1 3, 132, .inl rO)), (b55, .inl (g.2.1 1, 49, .inl ((L1_X12_layTree rA rB rO i lc on ab R gB (upd gM on (0 : Int32)) (upd gT on (0 : Int32)) pe).1))), (b56, .inl (g.2.1 1, 7, .inl ((L1_X12_layTree rA rB rO i lc on ab R gB (upd gM on (0 : Int32)) (upd gT on (0 : Int32)) pe).2.1))), (b57, .inl (g.2.1 1, 7, .inl (upd fb57_2 on (mx2 (fb57_2 on) ((nI (j2 + 1)) + (fb57_2 (tN (((L1_X12_layTree rA rB rO i lc on ab R gB (upd gM on (0 : Int32)) (upd gT on (0 : Int32)) pe).1) (7 * on + j2)))))))))]) X hW 8 rfl (vp_in_nI (by omega) (by decide)) (f' := (upd fb57_2 on (mx2 (fb57_2 on) ((nI (j2 + 1)) + (fb57_2 (tN (((L1_X12_layTree rA rB rO i lc on ab R gB (upd gM on (0 : Int32)) (upd gT on (0 : Int32)) pe).1) (7 * on + j2)))))))) (by rw [nI_clamp (by omega)]) rfl dX12_layTree_216 (fun H locs hW => ?_)
              refine lv_iinc (v := nI (j2 + 1)) (lv' := [(4, .int (nI (j2 + 1))), (0, .ref h0), (1, .int (nI i)), (2, .int (nI on)), (3, .int ab)]) (pc := 217) hx hb dX12_layTree_217 hl (k := 0) rfl (nI_add j2 1) (by decide) rfl (fun ls hl => ?_)
              refine lv_goto (tgt := 169) (pc := 220) hx hb dX12_layTree_220 rfl ?_
              exact ih2 (j2 + 1) (upd fb57_2 on (mx2 (fb57_2 on) ((nI (j2 + 1)) + (fb57_2 (tN (((L1_X12_layTree rA rB rO i lc on ab R gB (upd gM on (0 : Int32)) (upd gT on (0 : Int32)) pe).1) (7 * on + j2))))))) (by omega) (by omega) (by rw [L2_X12_layTree, ← hst2]; exact (show L2_X12_layTrees rA rB rO gB gM gT i lc pe on ab R j2 fb57_2 = (upd fb57_2 on (mx2 (fb57_2 on) ((nI (j2 + 1)) + (fb57_2 (tN (((L1_X12_layTree rA rB rO i lc on ab R gB (upd gM on (0 : Int32)) (upd gT on (0 : Int32)) pe).1) (7 * on + j2))))))) from rfl).symm) _ _ _ hW (lv_sub hl [0, 1, 2, 3, 4] rfl)
        exact loop2 ((tN (((L1_X12_layTree rA rB rO i lc on ab R gB (upd gM on (0 : Int32)) (upd gT on (0 : Int32)) pe).2.1) on)) + 1) 0 ((L1_X12_layTree rA rB rO i lc on ab R gB (upd gM on (0 : Int32)) (upd gT on (0 : Int32)) pe).2.2) (by omega) (by omega) rfl _ _ _ hW (lv_sub hl [0, 1, 2, 3, 4] rfl)
      · have h15 : ¬ (pe ≤ j1) := fun q => c2 ((nI_leI (a := pe) (b := j1) (by omega) (by omega)).mpr q)
        refine lv_iload (pc := 28) hx hb dX12_layTree_28 (lv_at hl 0 rfl) ?_
        refine lv_iload_n (pc := 30) hx hb dX12_layTree_30 rfl (lv_at hl 4 rfl) ?_
        refine lv_icmp_eq (tgt := 160) (pc := 31) hx hb dX12_layTree_31 rfl (fun c16 => ?_) (fun c16 => ?_)
        · refine lv_iinc (v := nI (j1 + 1)) (lv' := [(4, .int (nI (j1 + 1))), (0, .ref h0), (1, .int (nI i)), (2, .int (nI on)), (3, .int ab)]) (pc := 160) hx hb dX12_layTree_160 hl (k := 0) rfl (nI_add j1 1) (by decide) rfl (fun ls hl => ?_)
          refine lv_goto (tgt := 17) (pc := 163) hx hb dX12_layTree_163 rfl ?_
          exact ih1 (j1 + 1) fb55_1 fb56_1 fb57_1 (by omega) (by omega) (by first | exact hrB1 | exact rnb_nI hrB3 (by omega)) (by first | exact hrM1 | exact (rnm_1 hqM (by omega) (by omega)).1) (by first | omega | (rw [(rnm_1 hqM (by omega) (by omega)).2]; omega)) (by rw [L1_X12_layTree, ← hst1]; exact (show L1_X12_layTrees rA rB rO i lc on ab R j1 fb55_1 fb56_1 fb57_1 = (fb55_1, fb56_1, fb57_1) from by rw [L1_X12_layTrees, if_pos c16]).symm) _ _ _ hW (lv_sub hl [0, 1, 2, 3, 4] rfl)
        · have q31 := c16
          refine lv_iload (pc := 34) hx hb dX12_layTree_34 (lv_at hl 0 rfl) ?_
          refine lv_iload_n (pc := 36) hx hb dX12_layTree_36 rfl (lv_at hl 3 rfl) ?_
          refine lv_icmp_eq (tgt := 160) (pc := 37) hx hb dX12_layTree_37 rfl (fun c19 => ?_) (fun c19 => ?_)
          · have h20 : j1 = on := (nI_eq (a := j1) (b := on) (by omega) (by omega)).mp c19
            refine lv_iinc (v := nI (j1 + 1)) (lv' := [(4, .int (nI (j1 + 1))), (0, .ref h0), (1, .int (nI i)), (2, .int (nI on)), (3, .int ab)]) (pc := 160) hx hb dX12_layTree_160 hl (k := 0) rfl (nI_add j1 1) (by decide) rfl (fun ls hl => ?_)
            refine lv_goto (tgt := 17) (pc := 163) hx hb dX12_layTree_163 rfl ?_
            exact ih1 (j1 + 1) fb55_1 fb56_1 fb57_1 (by omega) (by omega) (by first | exact hrB1 | exact rnb_nI hrB3 (by omega)) (by first | exact hrM1 | exact (rnm_1 hqM (by omega) (by omega)).1) (by first | omega | (rw [(rnm_1 hqM (by omega) (by omega)).2]; omega)) (by rw [L1_X12_layTree, ← hst1]; exact (show L1_X12_layTrees rA rB rO i lc on ab R j1 fb55_1 fb56_1 fb57_1 = (fb55_1, fb56_1, fb57_1) from by rw [L1_X12_layTrees, if_neg c16, if_pos c19]).symm) _ _ _ hW (lv_sub hl [0, 1, 2, 3, 4] rfl)
          · have h21 : ¬ (j1 = on) := fun q => c19 ((nI_eq (a := j1) (b := on) (by omega) (by omega)).mpr q)
            have q37 := c19
            refine lv_aload_n (pc := 40) hx hb dX12_layTree_40 rfl (lv_at hl 1 rfl) ?_
            refine lv_iload_n (pc := 41) hx hb dX12_layTree_41 rfl (lv_at hl 2 rfl) ?_
            refine lv_iload_n (pc := 42) hx hb dX12_layTree_42 rfl (lv_at hl 3 rfl) ?_
            refine lv_iload (pc := 43) hx hb dX12_layTree_43 (lv_at hl 0 rfl) ?_
            refine c_Vi (pc := 45) (As := [.int (nI i), .int (nI on), .int (nI j1)]) (rest := []) (wr := [(b6, .inl (g.2.1 1, 11, .inl rP)), (b55, .inl (g.2.1 1, 49, .inl fb55_1)), (b56, .inl (g.2.1 1, 7, .inl fb56_1)), (b57, .inl (g.2.1 1, 7, .inl fb57_1))]) X hW 0 ciX12 rfl (K_X12_isBeside l g h0 vs b7 rL b12 rA b13 rB b17 rO i lc on j1 hlen h7_ h12_ h13_ h17_ (by omega) hlc hL) vX12_367 [0, 2, 3, 4, 5] [1, 6, 7, 8] rfl rfl rfl rfl rfl rfl hl.1 rfl (Nat.le_of_ble_eq_true rfl) ⟨by show _ ≤ dd + 1; omega, by show _ ≤ 40 * (dd + 1); omega⟩ ⟨Nat.le_of_ble_eq_true rfl, Nat.le_of_ble_eq_true rfl⟩ dX12_layTree_45 (fun r22 u9 H locs hq hW => ?_)
            obtain ⟨rfl, rfl⟩ := hq
            have hW : WD g A s _ _ [(b6, .inl (g.2.1 1, 11, .inl rP)), (b55, .inl (g.2.1 1, 49, .inl fb55_1)), (b56, .inl (g.2.1 1, 7, .inl fb56_1)), (b57, .inl (g.2.1 1, 7, .inl fb57_1)), (h0, .inr (12, vs)), (b7, .inl (g.2.1 1, 11, .inl rL)), (b12, .inl (g.2.1 1, 132, .inl rA)), (b13, .inl (g.2.1 1, 132, .inl rB)), (b17, .inl (g.2.1 3, 132, .inl rO))] := hW
            refine lv_if_ne (tgt := 54) (pc := 48) hx hb dX12_layTree_48 rfl (fun c23 => ?_) (fun c23 => ?_)
            · obtain ⟨W9, hT9, hn9, hs9⟩ := hTP.2.2 j1 (by omega) q31 (fun z9 => q37 (congrArg nI z9)) c23
              refine lv_aload_n (pc := 54) hx hb dX12_layTree_54 rfl (lv_at hl 1 rfl) ?_
              refine lv_iload_n (pc := 55) hx hb dX12_layTree_55 rfl (lv_at hl 2 rfl) ?_
              refine lv_iload (pc := 56) hx hb dX12_layTree_56 (lv_at hl 0 rfl) ?_
              refine lv_iload_n (pc := 58) hx hb dX12_layTree_58 rfl (lv_at hl 3 rfl) ?_
              refine c_Vv (pc := 59) (As := [.int (nI i), .int (nI j1), .int (nI on)]) (rest := []) (wr := []) X hW 4 ciX12 rfl (hrec fb55_1 fb56_1 fb57_1 j1 (nI on) W9 hT9 hrB1 hrM1) vX12_370 [4, 0, 5, 6, 7, 8, 1, 2, 3] [] rfl rfl rfl rfl rfl rfl hl.1 rfl (Nat.le_of_ble_eq_true rfl) ⟨by show _ ≤ dd + 1; omega, by show _ ≤ 40 * (dd + 1); omega⟩ ⟨Nat.le_of_ble_eq_true rfl, Nat.le_of_ble_eq_true rfl⟩ dX12_layTree_59 (fun u9 H locs hq hW => ?_)
              obtain rfl := hq
              have hW : WD g A s _ _ [(h0, .inr (12, vs)), (b6, .inl (g.2.1 1, 11, .inl rP)), (b7, .inl (g.2.1 1, 11, .inl rL)), (b12, .inl (g.2.1 1, 132, .inl rA)), (b13, .inl (g.2.1 1, 132, .inl rB)), (b17, .inl (g.2.1 3, 132, .inl rO)), (b55, .inl (g.2.1 1, 49, .inl ((R j1 (nI on) fb55_1 fb56_1 fb57_1).1))), (b56, .inl (g.2.1 1, 7, .inl ((R j1 (nI on) fb55_1 fb56_1 fb57_1).2.1))), (b57, .inl (g.2.1 1, 7, .inl ((R j1 (nI on) fb55_1 fb56_1 fb57_1).2.2)))] := hW
              obtain ⟨hqB, hqM, hqW⟩ := hR fb55_1 fb56_1 fb57_1 j1 (nI on) W9 hT9 hrB1 hrM1
              have hon9 := hqW on hn9
              have hcn9 : (tN ((R j1 (nI on) fb55_1 fb56_1 fb57_1).2.1 on)) ≤ 6 ∧ (tN ((R j1 (nI on) fb55_1 fb56_1 fb57_1).2.1 on)) ≤ j1 ∧ (on < j1 → (tN ((R j1 (nI on) fb55_1 fb56_1 fb57_1).2.1 on)) + 1 ≤ j1) := by rw [hon9]; omega
              refine lv_aload_n (pc := 62) hx hb dX12_layTree_62 rfl (lv_at hl 1 rfl) ?_
              refine r_get X hW 0 ciX12 56 rfl (by decide) m_1283 rfl h56_ dX12_layTree_63 ?_
              refine lv_iload_n (pc := 66) hx hb dX12_layTree_66 rfl (lv_at hl 3 rfl) ?_
              refine r_iald X hW 7 rfl (vp_in_nI (by omega) (by decide)) dX12_layTree_67 ?_
              refine lv_topi (fun v25 ev25 => ?_)
              obtain rfl : v25 = ((R j1 (nI on) fb55_1 fb56_1 fb57_1).2.1) on := ev25.trans (by rw [nI_clamp (by omega)])
              rw [(hqM on (by omega)).1]
              refine lv_istore (lv' := [(5, .int (nI (tN ((R j1 (nI on) fb55_1 fb56_1 fb57_1).2.1 on)))), (4, .int (nI j1)), (0, .ref h0), (1, .int (nI i)), (2, .int (nI on)), (3, .int ab)]) (pc := 68) hx hb dX12_layTree_68 hl (by decide) rfl (fun ls hl => ?_)
              have loop3 : ∀ (fu3 : Nat) (j3 : Nat) (x5_3 : Int32) (fb55_3 : Nat → Int32), ((tN ((R j1 (nI on) fb55_1 fb56_1 fb57_1).2.1 on)) < fu3 + j3) → (j3 ≤ (tN ((R j1 (nI on) fb55_1 fb56_1 fb57_1).2.1 on))) → (RNB fb55_3) → (x5_3 = nI (tN x5_3) ∧ tN x5_3 + j3 = (tN ((R j1 (nI on) fb55_1 fb56_1 fb57_1).2.1 on))) → (L3_X12_layTree on R j1 fb55_1 fb56_1 fb57_1 fu3 j3 x5_3 fb55_3 = L3_X12_layTree on R j1 fb55_1 fb56_1 fb57_1 ((tN ((R j1 (nI on) fb55_1 fb56_1 fb57_1).2.1 on)) + 1) 0 (nI (tN ((R j1 (nI on) fb55_1 fb56_1 fb57_1).2.1 on))) ((R j1 (nI on) fb55_1 fb56_1 fb57_1).1)) → ∀ (H : Heap) (locs : List Loc) (ls : Array Slot), WD g A s H locs [(h0, .inr (12, vs)), (b6, .inl (g.2.1 1, 11, .inl rP)), (b7, .inl (g.2.1 1, 11, .inl rL)), (b12, .inl (g.2.1 1, 132, .inl rA)), (b13, .inl (g.2.1 1, 132, .inl rB)), (b17, .inl (g.2.1 3, 132, .inl rO)), (b55, .inl (g.2.1 1, 49, .inl fb55_3)), (b56, .inl (g.2.1 1, 7, .inl ((R j1 (nI on) fb55_1 fb56_1 fb57_1).2.1))), (b57, .inl (g.2.1 1, 7, .inl ((R j1 (nI on) fb55_1 fb56_1 fb57_1).2.2)))] → lv_has ls 6 [(5, .int x5_3), (4, .int (nI j1)), (0, .ref h0), (1, .int (nI i)), (2, .int (nI on)), (3, .int ab)] → W p l e (RM (dd + 1) 0 0) s m args below meth c H locs 0 0 Q (F0 m 70 ls []) := by
                intro fu3
                induction fu3 with
                | zero =>
                  intro j3 x5_3 fb55_3 hm3 hj3 hrB3 hk3 hst3
                  exact absurd hm3 (by omega)
                | succ fu3 ih3 =>
                  intro j3 x5_3 fb55_3 hm3 hj3 hrB3 hk3 hst3 H locs ls hW hl
                  refine lv_iload (pc := 70) hx hb dX12_layTree_70 (lv_at hl 0 rfl) ?_
                  have hk3b := hk3.2
                  rw [hk3.1]
                  refine lv_if_le (tgt := 136) (pc := 72) hx hb dX12_layTree_72 rfl (fun c26 => ?_) (fun c26 => ?_)
                  · have h27 : (tN x5_3) ≤ 0 := (nI_leI (a := (tN x5_3)) (b := 0) (by omega) (by omega)).mp c26
                    have hst3 := (show L3_X12_layTree on R j1 fb55_1 fb56_1 fb57_1 (fu3 + 1) j3 x5_3 fb55_3 = (x5_3, fb55_3) from by rw [L3_X12_layTree, if_pos c26]).symm.trans hst3
                    have hs3_0 : x5_3 = (L3_X12_layTree on R j1 fb55_1 fb56_1 fb57_1 ((tN ((R j1 (nI on) fb55_1 fb56_1 fb57_1).2.1 on)) + 1) 0 (nI (tN ((R j1 (nI on) fb55_1 fb56_1 fb57_1).2.1 on))) ((R j1 (nI on) fb55_1 fb56_1 fb57_1).1)).1 := congrArg (fun z => z.1) hst3
                    have hs3_1 : fb55_3 = (L3_X12_layTree on R j1 fb55_1 fb56_1 fb57_1 ((tN ((R j1 (nI on) fb55_1 fb56_1 fb57_1).2.1 on)) + 1) 0 (nI (tN ((R j1 (nI on) fb55_1 fb56_1 fb57_1).2.1 on))) ((R j1 (nI on) fb55_1 fb56_1 fb57_1).1)).2 := congrArg (fun z => z.2) hst3
                    clear hst3
                    subst hs3_0
                    subst hs3_1
                    have hW : WD g A s _ _ [(h0, .inr (12, vs)), (b6, .inl (g.2.1 1, 11, .inl rP)), (b7, .inl (g.2.1 1, 11, .inl rL)), (b12, .inl (g.2.1 1, 132, .inl rA)), (b13, .inl (g.2.1 1, 132, .inl rB)), (b17, .inl (g.2.1 3, 132, .inl rO)), (b55, .inl (g.2.1 1, 49, .inl ((L3_X12_layTree on R j1 fb55_1 fb56_1 fb57_1 ((tN ((R j1 (nI on) fb55_1 fb56_1 fb57_1).2.1 on)) + 1) 0 (nI (tN ((R j1 (nI on) fb55_1 fb56_1 fb57_1).2.1 on))) ((R j1 (nI on) fb55_1 fb56_1 fb57_1).1)).2))), (b56, .inl (g.2.1 1, 7, .inl ((R j1 (nI on) fb55_1 fb56_1 fb57_1).2.1))), (b57, .inl (g.2.1 1, 7, .inl ((R j1 (nI on) fb55_1 fb56_1 fb57_1).2.2)))] := hW
                    refine lv_aload_n (pc := 136) hx hb dX12_layTree_136 rfl (lv_at hl 2 rfl) ?_
                    refine r_get X hW 0 ciX12 55 rfl (by decide) m_1282 rfl h55_ dX12_layTree_137 ?_
                    refine lv_bipush (v := 7) (pc := 140) hx hb dX12_layTree_140 (by decide) ?_
                    refine lv_iload_n (pc := 142) hx hb dX12_layTree_142 rfl (lv_at hl 4 rfl) ?_
                    refine lv_imul (pc := 143) hx hb dX12_layTree_143 ?_
                    refine lv_topi (fun v28 ev28 => ?_)
                    obtain rfl : v28 = nI (7 * on) := ev28.trans (pk_mul 7 on)
                    refine lv_iload (pc := 144) hx hb dX12_layTree_144 (lv_at hl 0 rfl) ?_
                    rw [hk3.1]
                    refine lv_iadd (pc := 146) hx hb dX12_layTree_146 ?_
                    refine lv_topi (fun v29 ev29 => ?_)
                    obtain rfl : v29 = nI (7 * on + tN ((L3_X12_layTree on R j1 fb55_1 fb56_1 fb57_1 ((tN ((R j1 (nI on) fb55_1 fb56_1 fb57_1).2.1 on)) + 1) 0 (nI (tN ((R j1 (nI on) fb55_1 fb56_1 fb57_1).2.1 on))) ((R j1 (nI on) fb55_1 fb56_1 fb57_1).1)).1)) := ev29.trans (nI_add _ _)
                    refine lv_iload (pc := 147) hx hb dX12_layTree_147 (lv_at hl 1 rfl) ?_
                    refine r_iast (ws' := [(h0, .inr (12, vs)), (b6, .inl (g.2.1 1, 11, .inl rP)), (b7, .inl (g.2.1 1, 11, .inl rL)), (b12, .inl (g.2.1 1, 132, .inl rA)), (b13, .inl (g.2.1 1, 132, .inl rB)), (b17, .inl (g.2.1 3, 132, .inl rO)), (b55, .inl (g.2.1 1, 49, .inl (upd ((L3_X12_layTree on R j1 fb55_1 fb56_1 fb57_1 ((tN ((R j1 (nI on) fb55_1 fb56_1 fb57_1).2.1 on)) + 1) 0 (nI (tN ((R j1 (nI on) fb55_1 fb56_1 fb57_1).2.1 on))) ((R j1 (nI on) fb55_1 fb56_1 fb57_1).1)).2) (7 * on + tN ((L3_X12_layTree on R j1 fb55_1 fb56_1 fb57_1 ((tN ((R j1 (nI on) fb55_1 fb56_1 fb57_1).2.1 on)) + 1) 0 (nI (tN ((R j1 (nI on) fb55_1 fb56_1 fb57_1).2.1 on))) ((R j1 (nI on) fb55_1 fb56_1 fb57_1).1)).1)) (nI j1)))), (b56, .inl (g.2.1 1, 7, .inl ((R j1 (nI on) fb55_1 fb56_1 fb57_1).2.1))), (b57, .inl (g.2.1 1, 7, .inl ((R j1 (nI on) fb55_1 fb56_1 fb57_1).2.2)))]) X hW 6 rfl (vp_in_nI (by omega) (by decide)) (f' := (upd ((L3_X12_layTree on R j1 fb55_1 fb56_1 fb57_1 ((tN ((R j1 (nI on) fb55_1 fb56_1 fb57_1).2.1 on)) + 1) 0 (nI (tN ((R j1 (nI on) fb55_1 fb56_1 fb57_1).2.1 on))) ((R j1 (nI on) fb55_1 fb56_1 fb57_1).1)).2) (7 * on + tN ((L3_X12_layTree on R j1 fb55_1 fb56_1 fb57_1 ((tN ((R j1 (nI on) fb55_1 fb56_1 fb57_1).2.1 on)) + 1) 0 (nI (tN ((R j1 (nI on) fb55_1 fb56_1 fb57_1).2.1 on))) ((R j1 (nI on) fb55_1 fb56_1 fb57_1).1)).1)) (nI j1))) (by rw [nI_clamp (by omega)]) rfl dX12_layTree_149 (fun H locs hW => ?_)
                    refine lv_aload_n (pc := 150) hx hb dX12_layTree_150 rfl (lv_at hl 2 rfl) ?_
                    refine r_get X hW 0 ciX12 56 rfl (by decide) m_1283 rfl h56_ dX12_layTree_151 ?_
                    refine lv_iload_n (pc := 154) hx hb dX12_layTree_154 rfl (lv_at hl 4 rfl) ?_
                    refine lv_dup2_11 (pc := 155) hx hb dX12_layTree_155 rfl rfl ?_
                    refine r_iald X hW 7 rfl (vp_in_nI (by omega) (by decide)) dX12_layTree_156 ?_
                    refine lv_topi (fun v30 ev30 => ?_)
                    obtain rfl : v30 = ((R j1 (nI on) fb55_1 fb56_1 fb57_1).2.1) on := ev30.trans (by rw [nI_clamp (by omega)])
                    refine lv_iconst (v := 1) (pc := 157) hx hb dX12_layTree_157 (by decide) ?_
                    refine lv_iadd (pc := 158) hx hb dX12_layTree_158 ?_
                    refine r_iast (ws' := [(h0, .inr (12, vs)), (b6, .inl (g.2.1 1, 11, .inl rP)), (b7, .inl (g.2.1 1, 11, .inl rL)), (b12, .inl (g.2.1 1, 132, .inl rA)), (b13, .inl (g.2.1 1, 132, .inl rB)), (b17, .inl (g.2.1 3, 132, .inl rO)), (b55, .inl (g.2.1 1, 49, .inl (upd ((L3_X12_layTree on R j1 fb55_1 fb56_1 fb57_1 ((tN ((R j1 (nI on) fb55_1 fb56_1 fb57_1).2.1 on)) + 1) 0 (nI (tN ((R j1 (nI on) fb55_1 fb56_1 fb57_1).2.1 on))) ((R j1 (nI on) fb55_1 fb56_1 fb57_1).1)).2) (7 * on + tN ((L3_X12_layTree on R j1 fb55_1 fb56_1 fb57_1 ((tN ((R j1 (nI on) fb55_1 fb56_1 fb57_1).2.1 on)) + 1) 0 (nI (tN ((R j1 (nI on) fb55_1 fb56_1 fb57_1).2.1 on))) ((R j1 (nI on) fb55_1 fb56_1 fb57_1).1)).1)) (nI j1)))), (b56, .inl (g.2.1 1, 7, .inl (upd ((R j1 (nI on) fb55_1 fb56_1 fb57_1).2.1) on ((((R j1 (nI on) fb55_1 fb56_1 fb57_1).2.1) on) + (1 : Int32))))), (b57, .inl (g.2.1 1, 7, .inl ((R j1 (nI on) fb55_1 fb56_1 fb57_1).2.2)))]) X hW 7 rfl (vp_in_nI (by omega) (by decide)) (f' := (upd ((R j1 (nI on) fb55_1 fb56_1 fb57_1).2.1) on ((((R j1 (nI on) fb55_1 fb56_1 fb57_1).2.1) on) + (1 : Int32)))) (by rw [nI_clamp (by omega)]) rfl dX12_layTree_159 (fun H locs hW => ?_)
                    refine lv_iinc (v := nI (j1 + 1)) (lv' := [(4, .int (nI (j1 + 1))), (5, .int ((L3_X12_layTree on R j1 fb55_1 fb56_1 fb57_1 ((tN ((R j1 (nI on) fb55_1 fb56_1 fb57_1).2.1 on)) + 1) 0 (nI (tN ((R j1 (nI on) fb55_1 fb56_1 fb57_1).2.1 on))) ((R j1 (nI on) fb55_1 fb56_1 fb57_1).1)).1)), (0, .ref h0), (1, .int (nI i)), (2, .int (nI on)), (3, .int ab)]) (pc := 160) hx hb dX12_layTree_160 hl (k := 1) rfl (nI_add j1 1) (by decide) rfl (fun ls hl => ?_)
                    refine lv_goto (tgt := 17) (pc := 163) hx hb dX12_layTree_163 rfl ?_
                    exact ih1 (j1 + 1) (upd ((L3_X12_layTree on R j1 fb55_1 fb56_1 fb57_1 ((tN ((R j1 (nI on) fb55_1 fb56_1 fb57_1).2.1 on)) + 1) 0 (nI (tN ((R j1 (nI on) fb55_1 fb56_1 fb57_1).2.1 on))) ((R j1 (nI on) fb55_1 fb56_1 fb57_1).1)).2) (7 * on + tN ((L3_X12_layTree on R j1 fb55_1 fb56_1 fb57_1 ((tN ((R j1 (nI on) fb55_1 fb56_1 fb57_1).2.1 on)) + 1) 0 (nI (tN ((R j1 (nI on) fb55_1 fb56_1 fb57_1).2.1 on))) ((R j1 (nI on) fb55_1 fb56_1 fb57_1).1)).1)) (nI j1)) (upd ((R j1 (nI on) fb55_1 fb56_1 fb57_1).2.1) on ((((R j1 (nI on) fb55_1 fb56_1 fb57_1).2.1) on) + (1 : Int32))) ((R j1 (nI on) fb55_1 fb56_1 fb57_1).2.2) (by omega) (by omega) (by first | exact hrB1 | exact rnb_nI hrB3 (by omega)) (by first | exact hrM1 | exact (rnm_1 hqM (by omega) (by omega)).1) (by first | omega | (rw [(rnm_1 hqM (by omega) (by omega)).2]; omega)) (by rw [L1_X12_layTree, ← hst1]; exact (show L1_X12_layTrees rA rB rO i lc on ab R j1 fb55_1 fb56_1 fb57_1 = ((upd ((L3_X12_layTree on R j1 fb55_1 fb56_1 fb57_1 ((tN ((R j1 (nI on) fb55_1 fb56_1 fb57_1).2.1 on)) + 1) 0 (nI (tN ((R j1 (nI on) fb55_1 fb56_1 fb57_1).2.1 on))) ((R j1 (nI on) fb55_1 fb56_1 fb57_1).1)).2) (7 * on + tN ((L3_X12_layTree on R j1 fb55_1 fb56_1 fb57_1 ((tN ((R j1 (nI on) fb55_1 fb56_1 fb57_1).2.1 on)) + 1) 0 (nI (tN ((R j1 (nI on) fb55_1 fb56_1 fb57_1).2.1 on))) ((R j1 (nI on) fb55_1 fb56_1 fb57_1).1)).1)) (nI j1)), (upd ((R j1 (nI on) fb55_1 fb56_1 fb57_1).2.1) on ((((R j1 (nI on) fb55_1 fb56_1 fb57_1).2.1) on) + (1 : Int32))), (R j1 (nI on) fb55_1 fb56_1 fb57_1).2.2) from by rw [L1_X12_layTrees, if_neg c16, if_neg c19, if_neg c23]).symm) _ _ _ hW (lv_sub hl [0, 2, 3, 4, 5] rfl)
                  · have h31 : ¬ ((tN x5_3) ≤ 0) := fun q => c26 ((nI_leI (a := (tN x5_3)) (b := 0) (by omega) (by omega)).mpr q)
                    refine lv_aload_n (pc := 75) hx hb dX12_layTree_75 rfl (lv_at hl 2 rfl) ?_
                    refine r_get X hW 0 ciX12 57 rfl (by decide) m_1284 rfl h57_ dX12_layTree_76 ?_
                    refine lv_aload_n (pc := 79) hx hb dX12_layTree_79 rfl (lv_at hl 2 rfl) ?_
                    refine r_get X hW 0 ciX12 55 rfl (by decide) m_1282 rfl h55_ dX12_layTree_80 ?_
                    refine lv_bipush (v := 7) (pc := 83) hx hb dX12_layTree_83 (by decide) ?_
                    refine lv_iload_n (pc := 85) hx hb dX12_layTree_85 rfl (lv_at hl 4 rfl) ?_
                    refine lv_imul (pc := 86) hx hb dX12_layTree_86 ?_
                    refine lv_topi (fun v32 ev32 => ?_)
                    obtain rfl : v32 = nI (7 * on) := ev32.trans (pk_mul 7 on)
                    refine lv_iload (pc := 87) hx hb dX12_layTree_87 (lv_at hl 0 rfl) ?_
                    rw [hk3.1]
                    refine lv_iadd (pc := 89) hx hb dX12_layTree_89 ?_
                    refine lv_topi (fun v33 ev33 => ?_)
                    obtain rfl : v33 = nI (7 * on + tN x5_3) := ev33.trans (nI_add _ _)
                    refine lv_iconst (v := 1) (pc := 90) hx hb dX12_layTree_90 (by decide) ?_
                    refine lv_isub (pc := 91) hx hb dX12_layTree_91 ?_
                    refine lv_topi (fun v34 ev34 => ?_)
                    obtain rfl : v34 = nI (7 * on + tN x5_3 - 1) := ev34.trans (pk_sub (a := (7 * on + tN x5_3)) (b := 1) (by omega))
                    refine r_iald X hW 6 rfl (vp_in_nI (by omega) (by decide)) dX12_layTree_92 ?_
                    refine lv_topi (fun v35 ev35 => ?_)
                    obtain rfl : v35 = fb55_3 (7 * on + tN x5_3 - 1) := ev35.trans (by rw [nI_clamp (by omega)])
                    have hb8 := hrB3 (7 * on + tN x5_3 - 1) (by omega)
                    have hb82 := hb8.2
                    rw [hb8.1]
                    refine r_iald X hW 8 rfl (vp_in_nI (by omega) (by decide)) dX12_layTree_93 ?_
                    refine lv_topi (fun v36 ev36 => ?_)
                    obtain rfl : v36 = ((R j1 (nI on) fb55_1 fb56_1 fb57_1).2.2) (tN (fb55_3 (7 * on + tN x5_3 - 1))) := ev36.trans (by rw [nI_clamp (by omega)])
                    refine lv_aload_n (pc := 94) hx hb dX12_layTree_94 rfl (lv_at hl 2 rfl) ?_
                    refine r_get X hW 0 ciX12 57 rfl (by decide) m_1284 rfl h57_ dX12_layTree_95 ?_
                    refine lv_iload (pc := 98) hx hb dX12_layTree_98 (lv_at hl 1 rfl) ?_
                    refine r_iald X hW 8 rfl (vp_in_nI (by omega) (by decide)) dX12_layTree_100 ?_
                    refine lv_topi (fun v37 ev37 => ?_)
                    obtain rfl : v37 = ((R j1 (nI on) fb55_1 fb56_1 fb57_1).2.2) j1 := ev37.trans (by rw [nI_clamp (by omega)])
                    refine lv_icmp_ge (tgt := 136) (pc := 101) hx hb dX12_layTree_101 rfl (fun c38 => ?_) (fun c38 => ?_)
                    · have hst3 := (show L3_X12_layTree on R j1 fb55_1 fb56_1 fb57_1 (fu3 + 1) j3 x5_3 fb55_3 = (x5_3, fb55_3) from by rw [L3_X12_layTree, if_neg c26, if_pos c38]).symm.trans hst3
                      have hs3_0 : x5_3 = (L3_X12_layTree on R j1 fb55_1 fb56_1 fb57_1 ((tN ((R j1 (nI on) fb55_1 fb56_1 fb57_1).2.1 on)) + 1) 0 (nI (tN ((R j1 (nI on) fb55_1 fb56_1 fb57_1).2.1 on))) ((R j1 (nI on) fb55_1 fb56_1 fb57_1).1)).1 := congrArg (fun z => z.1) hst3
                      have hs3_1 : fb55_3 = (L3_X12_layTree on R j1 fb55_1 fb56_1 fb57_1 ((tN ((R j1 (nI on) fb55_1 fb56_1 fb57_1).2.1 on)) + 1) 0 (nI (tN ((R j1 (nI on) fb55_1 fb56_1 fb57_1).2.1 on))) ((R j1 (nI on) fb55_1 fb56_1 fb57_1).1)).2 := congrArg (fun z => z.2) hst3
                      clear hst3
                      subst hs3_0
                      subst hs3_1
                      have hW : WD g A s _ _ [(h0, .inr (12, vs)), (b6, .inl (g.2.1 1, 11, .inl rP)), (b7, .inl (g.2.1 1, 11, .inl rL)), (b12, .inl (g.2.1 1, 132, .inl rA)), (b13, .inl (g.2.1 1, 132, .inl rB)), (b17, .inl (g.2.1 3, 132, .inl rO)), (b55, .inl (g.2.1 1, 49, .inl ((L3_X12_layTree on R j1 fb55_1 fb56_1 fb57_1 ((tN ((R j1 (nI on) fb55_1 fb56_1 fb57_1).2.1 on)) + 1) 0 (nI (tN ((R j1 (nI on) fb55_1 fb56_1 fb57_1).2.1 on))) ((R j1 (nI on) fb55_1 fb56_1 fb57_1).1)).2))), (b56, .inl (g.2.1 1, 7, .inl ((R j1 (nI on) fb55_1 fb56_1 fb57_1).2.1))), (b57, .inl (g.2.1 1, 7, .inl ((R j1 (nI on) fb55_1 fb56_1 fb57_1).2.2)))] := hW
                      refine lv_aload_n (pc := 136) hx hb dX12_layTree_136 rfl (lv_at hl 2 rfl) ?_
                      refine r_get X hW 0 ciX12 55 rfl (by decide) m_1282 rfl h55_ dX12_layTree_137 ?_
                      refine lv_bipush (v := 7) (pc := 140) hx hb dX12_layTree_140 (by decide) ?_
                      refine lv_iload_n (pc := 142) hx hb dX12_layTree_142 rfl (lv_at hl 4 rfl) ?_
                      refine lv_imul (pc := 143) hx hb dX12_layTree_143 ?_
                      refine lv_topi (fun v40 ev40 => ?_)
                      obtain rfl : v40 = nI (7 * on) := ev40.trans (pk_mul 7 on)
                      refine lv_iload (pc := 144) hx hb dX12_layTree_144 (lv_at hl 0 rfl) ?_
                      rw [hk3.1]
                      refine lv_iadd (pc := 146) hx hb dX12_layTree_146 ?_
                      refine lv_topi (fun v41 ev41 => ?_)
                      obtain rfl : v41 = nI (7 * on + tN ((L3_X12_layTree on R j1 fb55_1 fb56_1 fb57_1 ((tN ((R j1 (nI on) fb55_1 fb56_1 fb57_1).2.1 on)) + 1) 0 (nI (tN ((R j1 (nI on) fb55_1 fb56_1 fb57_1).2.1 on))) ((R j1 (nI on) fb55_1 fb56_1 fb57_1).1)).1)) := ev41.trans (nI_add _ _)
                      refine lv_iload (pc := 147) hx hb dX12_layTree_147 (lv_at hl 1 rfl) ?_
                      refine r_iast (ws' := [(h0, .inr (12, vs)), (b6, .inl (g.2.1 1, 11, .inl rP)), (b7, .inl (g.2.1 1, 11, .inl rL)), (b12, .inl (g.2.1 1, 132, .inl rA)), (b13, .inl (g.2.1 1, 132, .inl rB)), (b17, .inl (g.2.1 3, 132, .inl rO)), (b55, .inl (g.2.1 1, 49, .inl (upd ((L3_X12_layTree on R j1 fb55_1 fb56_1 fb57_1 ((tN ((R j1 (nI on) fb55_1 fb56_1 fb57_1).2.1 on)) + 1) 0 (nI (tN ((R j1 (nI on) fb55_1 fb56_1 fb57_1).2.1 on))) ((R j1 (nI on) fb55_1 fb56_1 fb57_1).1)).2) (7 * on + tN ((L3_X12_layTree on R j1 fb55_1 fb56_1 fb57_1 ((tN ((R j1 (nI on) fb55_1 fb56_1 fb57_1).2.1 on)) + 1) 0 (nI (tN ((R j1 (nI on) fb55_1 fb56_1 fb57_1).2.1 on))) ((R j1 (nI on) fb55_1 fb56_1 fb57_1).1)).1)) (nI j1)))), (b56, .inl (g.2.1 1, 7, .inl ((R j1 (nI on) fb55_1 fb56_1 fb57_1).2.1))), (b57, .inl (g.2.1 1, 7, .inl ((R j1 (nI on) fb55_1 fb56_1 fb57_1).2.2)))]) X hW 6 rfl (vp_in_nI (by omega) (by decide)) (f' := (upd ((L3_X12_layTree on R j1 fb55_1 fb56_1 fb57_1 ((tN ((R j1 (nI on) fb55_1 fb56_1 fb57_1).2.1 on)) + 1) 0 (nI (tN ((R j1 (nI on) fb55_1 fb56_1 fb57_1).2.1 on))) ((R j1 (nI on) fb55_1 fb56_1 fb57_1).1)).2) (7 * on + tN ((L3_X12_layTree on R j1 fb55_1 fb56_1 fb57_1 ((tN ((R j1 (nI on) fb55_1 fb56_1 fb57_1).2.1 on)) + 1) 0 (nI (tN ((R j1 (nI on) fb55_1 fb56_1 fb57_1).2.1 on))) ((R j1 (nI on) fb55_1 fb56_1 fb57_1).1)).1)) (nI j1))) (by rw [nI_clamp (by omega)]) rfl dX12_layTree_149 (fun H locs hW => ?_)
                      refine lv_aload_n (pc := 150) hx hb dX12_layTree_150 rfl (lv_at hl 2 rfl) ?_
                      refine r_get X hW 0 ciX12 56 rfl (by decide) m_1283 rfl h56_ dX12_layTree_151 ?_
                      refine lv_iload_n (pc := 154) hx hb dX12_layTree_154 rfl (lv_at hl 4 rfl) ?_
                      refine lv_dup2_11 (pc := 155) hx hb dX12_layTree_155 rfl rfl ?_
                      refine r_iald X hW 7 rfl (vp_in_nI (by omega) (by decide)) dX12_layTree_156 ?_
                      refine lv_topi (fun v42 ev42 => ?_)
                      obtain rfl : v42 = ((R j1 (nI on) fb55_1 fb56_1 fb57_1).2.1) on := ev42.trans (by rw [nI_clamp (by omega)])
                      refine lv_iconst (v := 1) (pc := 157) hx hb dX12_layTree_157 (by decide) ?_
                      refine lv_iadd (pc := 158) hx hb dX12_layTree_158 ?_
                      refine r_iast (ws' := [(h0, .inr (12, vs)), (b6, .inl (g.2.1 1, 11, .inl rP)), (b7, .inl (g.2.1 1, 11, .inl rL)), (b12, .inl (g.2.1 1, 132, .inl rA)), (b13, .inl (g.2.1 1, 132, .inl rB)), (b17, .inl (g.2.1 3, 132, .inl rO)), (b55, .inl (g.2.1 1, 49, .inl (upd ((L3_X12_layTree on R j1 fb55_1 fb56_1 fb57_1 ((tN ((R j1 (nI on) fb55_1 fb56_1 fb57_1).2.1 on)) + 1) 0 (nI (tN ((R j1 (nI on) fb55_1 fb56_1 fb57_1).2.1 on))) ((R j1 (nI on) fb55_1 fb56_1 fb57_1).1)).2) (7 * on + tN ((L3_X12_layTree on R j1 fb55_1 fb56_1 fb57_1 ((tN ((R j1 (nI on) fb55_1 fb56_1 fb57_1).2.1 on)) + 1) 0 (nI (tN ((R j1 (nI on) fb55_1 fb56_1 fb57_1).2.1 on))) ((R j1 (nI on) fb55_1 fb56_1 fb57_1).1)).1)) (nI j1)))), (b56, .inl (g.2.1 1, 7, .inl (upd ((R j1 (nI on) fb55_1 fb56_1 fb57_1).2.1) on ((((R j1 (nI on) fb55_1 fb56_1 fb57_1).2.1) on) + (1 : Int32))))), (b57, .inl (g.2.1 1, 7, .inl ((R j1 (nI on) fb55_1 fb56_1 fb57_1).2.2)))]) X hW 7 rfl (vp_in_nI (by omega) (by decide)) (f' := (upd ((R j1 (nI on) fb55_1 fb56_1 fb57_1).2.1) on ((((R j1 (nI on) fb55_1 fb56_1 fb57_1).2.1) on) + (1 : Int32)))) (by rw [nI_clamp (by omega)]) rfl dX12_layTree_159 (fun H locs hW => ?_)
                      refine lv_iinc (v := nI (j1 + 1)) (lv' := [(4, .int (nI (j1 + 1))), (5, .int ((L3_X12_layTree on R j1 fb55_1 fb56_1 fb57_1 ((tN ((R j1 (nI on) fb55_1 fb56_1 fb57_1).2.1 on)) + 1) 0 (nI (tN ((R j1 (nI on) fb55_1 fb56_1 fb57_1).2.1 on))) ((R j1 (nI on) fb55_1 fb56_1 fb57_1).1)).1)), (0, .ref h0), (1, .int (nI i)), (2, .int (nI on)), (3, .int ab)]) (pc := 160) hx hb dX12_layTree_160 hl (k := 1) rfl (nI_add j1 1) (by decide) rfl (fun ls hl => ?_)
                      refine lv_goto (tgt := 17) (pc := 163) hx hb dX12_layTree_163 rfl ?_
                      exact ih1 (j1 + 1) (upd ((L3_X12_layTree on R j1 fb55_1 fb56_1 fb57_1 ((tN ((R j1 (nI on) fb55_1 fb56_1 fb57_1).2.1 on)) + 1) 0 (nI (tN ((R j1 (nI on) fb55_1 fb56_1 fb57_1).2.1 on))) ((R j1 (nI on) fb55_1 fb56_1 fb57_1).1)).2) (7 * on + tN ((L3_X12_layTree on R j1 fb55_1 fb56_1 fb57_1 ((tN ((R j1 (nI on) fb55_1 fb56_1 fb57_1).2.1 on)) + 1) 0 (nI (tN ((R j1 (nI on) fb55_1 fb56_1 fb57_1).2.1 on))) ((R j1 (nI on) fb55_1 fb56_1 fb57_1).1)).1)) (nI j1)) (upd ((R j1 (nI on) fb55_1 fb56_1 fb57_1).2.1) on ((((R j1 (nI on) fb55_1 fb56_1 fb57_1).2.1) on) + (1 : Int32))) ((R j1 (nI on) fb55_1 fb56_1 fb57_1).2.2) (by omega) (by omega) (by first | exact hrB1 | exact rnb_nI hrB3 (by omega)) (by first | exact hrM1 | exact (rnm_1 hqM (by omega) (by omega)).1) (by first | omega | (rw [(rnm_1 hqM (by omega) (by omega)).2]; omega)) (by rw [L1_X12_layTree, ← hst1]; exact (show L1_X12_layTrees rA rB rO i lc on ab R j1 fb55_1 fb56_1 fb57_1 = ((upd ((L3_X12_layTree on R j1 fb55_1 fb56_1 fb57_1 ((tN ((R j1 (nI on) fb55_1 fb56_1 fb57_1).2.1 on)) + 1) 0 (nI (tN ((R j1 (nI on) fb55_1 fb56_1 fb57_1).2.1 on))) ((R j1 (nI on) fb55_1 fb56_1 fb57_1).1)).2) (7 * on + tN ((L3_X12_layTree on R j1 fb55_1 fb56_1 fb57_1 ((tN ((R j1 (nI on) fb55_1 fb56_1 fb57_1).2.1 on)) + 1) 0 (nI (tN ((R j1 (nI on) fb55_1 fb56_1 fb57_1).2.1 on))) ((R j1 (nI on) fb55_1 fb56_1 fb57_1).1)).1)) (nI j1)), (upd ((R j1 (nI on) fb55_1 fb56_1 fb57_1).2.1) on ((((R j1 (nI on) fb55_1 fb56_1 fb57_1).2.1) on) + (1 : Int32))), (R j1 (nI on) fb55_1 fb56_1 fb57_1).2.2) from by rw [L1_X12_layTrees, if_neg c16, if_neg c19, if_neg c23]).symm) _ _ _ hW (lv_sub hl [0, 2, 3, 4, 5] rfl)
                    · refine lv_aload_n (pc := 104) hx hb dX12_layTree_104 rfl (lv_at hl 2 rfl) ?_
                      refine r_get X hW 0 ciX12 55 rfl (by decide) m_1282 rfl h55_ dX12_layTree_105 ?_
                      refine lv_bipush (v := 7) (pc := 108) hx hb dX12_layTree_108 (by decide) ?_
                      refine lv_iload_n (pc := 110) hx hb dX12_layTree_110 rfl (lv_at hl 4 rfl) ?_
                      refine lv_imul (pc := 111) hx hb dX12_layTree_111 ?_
                      refine lv_topi (fun v44 ev44 => ?_)
                      obtain rfl : v44 = nI (7 * on) := ev44.trans (pk_mul 7 on)
                      refine lv_iload (pc := 112) hx hb dX12_layTree_112 (lv_at hl 0 rfl) ?_
                      rw [hk3.1]
                      refine lv_iadd (pc := 114) hx hb dX12_layTree_114 ?_
                      refine lv_topi (fun v45 ev45 => ?_)
                      obtain rfl : v45 = nI (7 * on + tN x5_3) := ev45.trans (nI_add _ _)
                      refine lv_aload_n (pc := 115) hx hb dX12_layTree_115 rfl (lv_at hl 2 rfl) ?_
                      refine r_get X hW 0 ciX12 55 rfl (by decide) m_1282 rfl h55_ dX12_layTree_116 ?_
                      refine lv_bipush (v := 7) (pc := 119) hx hb dX12_layTree_119 (by decide) ?_
                      refine lv_iload_n (pc := 121) hx hb dX12_layTree_121 rfl (lv_at hl 4 rfl) ?_
                      refine lv_imul (pc := 122) hx hb dX12_layTree_122 ?_
                      refine lv_topi (fun v46 ev46 => ?_)
                      obtain rfl : v46 = nI (7 * on) := ev46.trans (pk_mul 7 on)
                      refine lv_iload (pc := 123) hx hb dX12_layTree_123 (lv_at hl 0 rfl) ?_
                      rw [hk3.1, tN_nI (by omega)]
                      refine lv_iadd (pc := 125) hx hb dX12_layTree_125 ?_
                      refine lv_topi (fun v47 ev47 => ?_)
                      obtain rfl : v47 = nI (7 * on + tN x5_3) := ev47.trans (nI_add _ _)
                      refine lv_iconst (v := 1) (pc := 126) hx hb dX12_layTree_126 (by decide) ?_
                      refine lv_isub (pc := 127) hx hb dX12_layTree_127 ?_
                      refine lv_topi (fun v48 ev48 => ?_)
                      obtain rfl : v48 = nI (7 * on + tN x5_3 - 1) := ev48.trans (pk_sub (a := (7 * on + tN x5_3)) (b := 1) (by omega))
                      refine r_iald X hW 6 rfl (vp_in_nI (by omega) (by decide)) dX12_layTree_128 ?_
                      refine lv_topi (fun v49 ev49 => ?_)
                      obtain rfl : v49 = fb55_3 (7 * on + tN x5_3 - 1) := ev49.trans (by rw [nI_clamp (by omega)])
                      refine r_iast (ws' := [(h0, .inr (12, vs)), (b6, .inl (g.2.1 1, 11, .inl rP)), (b7, .inl (g.2.1 1, 11, .inl rL)), (b12, .inl (g.2.1 1, 132, .inl rA)), (b13, .inl (g.2.1 1, 132, .inl rB)), (b17, .inl (g.2.1 3, 132, .inl rO)), (b55, .inl (g.2.1 1, 49, .inl (upd fb55_3 (7 * on + tN x5_3) (fb55_3 (7 * on + tN x5_3 - 1))))), (b56, .inl (g.2.1 1, 7, .inl ((R j1 (nI on) fb55_1 fb56_1 fb57_1).2.1))), (b57, .inl (g.2.1 1, 7, .inl ((R j1 (nI on) fb55_1 fb56_1 fb57_1).2.2)))]) X hW 6 rfl (vp_in_nI (by omega) (by decide)) (f' := (upd fb55_3 (7 * on + tN x5_3) (fb55_3 (7 * on + tN x5_3 - 1)))) (by rw [nI_clamp (by omega)]) rfl dX12_layTree_129 (fun H locs hW => ?_)
                      refine lv_iinc (v := x5_3 + (-1)) (lv' := [(5, .int (x5_3 + (-1))), (4, .int (nI j1)), (0, .ref h0), (1, .int (nI i)), (2, .int (nI on)), (3, .int ab)]) (pc := 130) hx hb dX12_layTree_130 hl (k := 0) rfl (rfl) (by decide) rfl (fun ls hl => ?_)
                      refine lv_goto (tgt := 70) (pc := 133) hx hb dX12_layTree_133 rfl ?_
                      exact ih3 (j3 + 1) (x5_3 + (-1)) (upd fb55_3 (7 * on + tN x5_3) (fb55_3 (7 * on + tN x5_3 - 1))) (by omega) (by omega) (rnb_up hrB3 (hrB3 _ (by omega))) ⟨(dk7 hk3.1 (by omega) (by omega)).1, by have q := (dk7 hk3.1 (by omega) (by omega)).2; omega⟩ ((show L3_X12_layTree on R j1 fb55_1 fb56_1 fb57_1 (fu3 + 1) j3 x5_3 fb55_3 = L3_X12_layTree on R j1 fb55_1 fb56_1 fb57_1 fu3 (j3 + 1) (x5_3 + (-1)) (upd fb55_3 (7 * on + tN x5_3) (fb55_3 (7 * on + tN x5_3 - 1))) from by rw [L3_X12_layTree, if_neg c26, if_neg c38]).symm.trans hst3) _ _ _ hW (lv_sub hl [0, 1, 2, 3, 4, 5] rfl)
              exact loop3 ((tN ((R j1 (nI on) fb55_1 fb56_1 fb57_1).2.1 on)) + 1) 0 (nI (tN ((R j1 (nI on) fb55_1 fb56_1 fb57_1).2.1 on))) ((R j1 (nI on) fb55_1 fb56_1 fb57_1).1) (by omega) (by omega) hqB ⟨congrArg nI (tN_nI (by omega)).symm, by have q : tN (nI (tN ((R j1 (nI on) fb55_1 fb56_1 fb57_1).2.1 on))) = (tN ((R j1 (nI on) fb55_1 fb56_1 fb57_1).2.1 on)) := tN_nI (by omega); omega⟩ rfl _ _ _ hW (lv_sub hl [0, 1, 2, 3, 4, 5] rfl)
            · refine lv_goto (tgt := 160) (pc := 51) hx hb dX12_layTree_51 rfl ?_
              refine lv_iinc (v := nI (j1 + 1)) (lv' := [(4, .int (nI (j1 + 1))), (0, .ref h0), (1, .int (nI i)), (2, .int (nI on)), (3, .int ab)]) (pc := 160) hx hb dX12_layTree_160 hl (k := 0) rfl (nI_add j1 1) (by decide) rfl (fun ls hl => ?_)
              refine lv_goto (tgt := 17) (pc := 163) hx hb dX12_layTree_163 rfl ?_
              have hW : WD g A s _ _ [(h0, .inr (12, vs)), (b6, .inl (g.2.1 1, 11, .inl rP)), (b7, .inl (g.2.1 1, 11, .inl rL)), (b12, .inl (g.2.1 1, 132, .inl rA)), (b13, .inl (g.2.1 1, 132, .inl rB)), (b17, .inl (g.2.1 3, 132, .inl rO)), (b55, .inl (g.2.1 1, 49, .inl fb55_1)), (b56, .inl (g.2.1 1, 7, .inl fb56_1)), (b57, .inl (g.2.1 1, 7, .inl fb57_1))] := hW.pick [4, 0, 5, 6, 7, 8, 1, 2, 3] rfl rfl
              exact ih1 (j1 + 1) fb55_1 fb56_1 fb57_1 (by omega) (by omega) (by first | exact hrB1 | exact rnb_nI hrB3 (by omega)) (by first | exact hrM1 | exact (rnm_1 hqM (by omega) (by omega)).1) (by first | omega | (rw [(rnm_1 hqM (by omega) (by omega)).2]; omega)) (by rw [L1_X12_layTree, ← hst1]; exact (show L1_X12_layTrees rA rB rO i lc on ab R j1 fb55_1 fb56_1 fb57_1 = (fb55_1, fb56_1, fb57_1) from by rw [L1_X12_layTrees, if_neg c16, if_neg c19, if_pos c23]).symm) _ _ _ hW (lv_sub hl [0, 1, 2, 3, 4] rfl)
  exact loop1 (pe + 1) 0 gB (upd gM on (0 : Int32)) (upd gT on (0 : Int32)) (by omega) (by omega) hB (rnm_0 hM) (by rw [upd_eq]; exact ⟨Nat.zero_le _, fun q => absurd q (Nat.not_lt_zero _)⟩) rfl _ _ _ hW (lv_sub hl [0, 1, 2, 3, 4] rfl)

section
variable {rA rB rO : Nat → Int32} {i lc pe on j1 f : Nat} {ab : Int32} {R : LTF} {Wr : Nat → Prop} {B M T : Nat → Int32}
theorem ltr3 (hon : on ≤ 6) (hc : tN ((R j1 (nI on) B M T).2.1 on) ≤ 6) : ∀ (m j : Nat) (x : Int32) (D : Nat → Int32), x = nI (tN x) → tN x ≤ tN ((R j1 (nI on) B M T).2.1 on) → RNB D → RNB (L3_X12_layTree on R j1 B M T m j x D).2 ∧ (L3_X12_layTree on R j1 B M T m j x D).1 = nI (tN (L3_X12_layTree on R j1 B M T m j x D).1) ∧ tN (L3_X12_layTree on R j1 B M T m j x D).1 ≤ tN ((R j1 (nI on) B M T).2.1 on)
  | 0, _, _, _, h1, h2, h3 => ⟨h3, h1, h2⟩
  | m + 1, j, x, D, h1, h2, h3 => by
    rw [L3_X12_layTree]
    by_cases c1 : nI (tN x) ≤ 0
    · rw [if_pos c1]; exact ⟨h3, h1, h2⟩
    · rw [if_neg c1]
      have h0 := not_le0 (k := tN x) (by omega) c1
      split
      · exact ⟨h3, h1, h2⟩
      · obtain ⟨a, b⟩ := dk7 h1 (by omega) h0
        exact ltr3 hon hc m (j + 1) _ _ a (by omega) (rnb_up h3 (h3 _ (by omega)))
theorem ltr1 (hpe : pe ≤ 7) (hTP : TPl (fun a b => ¬ F_X12_isBeside rA rB rO i lc a b = 0) pe (f + 1) on ab Wr) (hB : RNB B) (hM : RNM M) (hR : ∀ (B M T : Nat → Int32) (o : Nat) (ab : Int32) (Wr : Nat → Prop), TPl (fun a b => ¬ F_X12_isBeside rA rB rO i lc a b = 0) pe f o ab Wr → RNB B → RNM M → RNB (R o ab B M T).1 ∧ RNM (R o ab B M T).2.1 ∧ ∀ y : Nat, ¬ Wr y → (R o ab B M T).2.1 y = M y) : ∀ k : Nat, k ≤ pe → RNB (L1_X12_layTree rA rB rO i lc on ab R B (upd M on 0) (upd T on 0) k).1 ∧ RNM (L1_X12_layTree rA rB rO i lc on ab R B (upd M on 0) (upd T on 0) k).2.1 ∧ (tN ((L1_X12_layTree rA rB rO i lc on ab R B (upd M on 0) (upd T on 0) k).2.1 on) ≤ k ∧ (on < k → tN ((L1_X12_layTree rA rB rO i lc on ab R B (upd M on 0) (upd T on 0) k).2.1 on) + 1 ≤ k)) ∧ ∀ y : Nat, ¬ Wr y → (L1_X12_layTree rA rB rO i lc on ab R B (upd M on 0) (upd T on 0) k).2.1 y = M y
  | 0, _ => ⟨hB, rnm_0 hM, by show tN (upd M on 0 on) ≤ 0 ∧ _; rw [upd_eq]; exact ⟨Nat.le_refl _, fun q => absurd q (Nat.not_lt_zero _)⟩, fun y hy => upd_ne fun q => hy (by rw [q]; exact hTP.2.1)⟩
  | k + 1, hk => by
    have ih := ltr1 hpe hTP hB hM hR k (by omega)
    have hon := hTP.1
    have e : L1_X12_layTree rA rB rO i lc on ab R B (upd M on 0) (upd T on 0) (k + 1) = L1_X12_layTrees rA rB rO i lc on ab R k (L1_X12_layTree rA rB rO i lc on ab R B (upd M on 0) (upd T on 0) k).1 (L1_X12_layTree rA rB rO i lc on ab R B (upd M on 0) (upd T on 0) k).2.1 (L1_X12_layTree rA rB rO i lc on ab R B (upd M on 0) (upd T on 0) k).2.2 := rfl
    rw [e]
    generalize L1_X12_layTree rA rB rO i lc on ab R B (upd M on 0) (upd T on 0) k = s at ih ⊢
    obtain ⟨s1, s2, s3⟩ := s
    obtain ⟨i1, i2, i3, i4⟩ := ih
    dsimp only at i1 i2 i3 i4 ⊢
    have skip : RNB (s1, s2, s3).1 ∧ RNM (s1, s2, s3).2.1 ∧ (tN ((s1, s2, s3).2.1 on) ≤ k + 1 ∧ (on < k + 1 → tN ((s1, s2, s3).2.1 on) + 1 ≤ k + 1)) ∧ ∀ y : Nat, ¬ Wr y → (s1, s2, s3).2.1 y = M y := ⟨i1, i2, by dsimp only; omega, i4⟩
    unfold L1_X12_layTrees
    by_cases c1 : nI k = ab
    · rw [if_pos c1]; exact skip
    · rw [if_neg c1]
      by_cases c2 : nI k = nI on
      · rw [if_pos c2]; exact skip
      · rw [if_neg c2]
        by_cases c3 : F_X12_isBeside rA rB rO i lc on k = 0
        · rw [if_pos c3]; exact skip
        · rw [if_neg c3]
          have hne : ¬ k = on := fun q => c2 (congrArg nI q)
          obtain ⟨W9, hT9, hn9, hs9⟩ := hTP.2.2 k (by omega) c1 hne c3
          obtain ⟨hqB, hqM, hqW⟩ := hR s1 s2 s3 k (nI on) W9 hT9 i1 i2
          have hon9 := hqW on hn9
          have hc : tN ((R k (nI on) s1 s2 s3).2.1 on) ≤ 6 := by rw [hon9]; omega
          have q : tN (nI (tN ((R k (nI on) s1 s2 s3).2.1 on))) = tN ((R k (nI on) s1 s2 s3).2.1 on) := tN_nI (by omega)
          obtain ⟨g1, -, -⟩ := ltr3 (T := s3) hon hc (tN ((R k (nI on) s1 s2 s3).2.1 on) + 1) 0 (nI (tN ((R k (nI on) s1 s2 s3).2.1 on))) (R k (nI on) s1 s2 s3).1 (congrArg nI q.symm) (Nat.le_of_eq q) hqB
          obtain ⟨g2, g3⟩ := rnm_1 hqM (k := on) (by omega) hc
          refine ⟨rnb_nI g1 (by omega), g2, ?_, fun y hy => ?_⟩
          · dsimp only
            rw [show tN (upd (R k (nI on) s1 s2 s3).2.1 on ((R k (nI on) s1 s2 s3).2.1 on + 1) on) = tN ((R k (nI on) s1 s2 s3).2.1 on) + 1 from g3, hon9]
            omega
          · dsimp only
            rw [upd_ne (fun q => hy (by rw [q]; exact hTP.2.1))]
            exact (hqW y fun q => hy (hs9 y q)).trans (i4 y hy)
end
/-- layTree, as deep as f -/
def LT (rA rB rO : Nat → Int32) (i lc pe : Nat) : Nat → LTF
  | 0 => fun _ _ B M T => (B, M, T)
  | f + 1 => fun on ab gB gM gT => F_X12_layTree rA rB rO gB gM gT i lc pe on ab (LT rA rB rO i lc pe f)
theorem LT_rng {rA rB rO : Nat → Int32} {i lc pe : Nat} (hpe : pe ≤ 7) : ∀ (f : Nat) (B M T : Nat → Int32) (o : Nat) (ab : Int32) (Wr : Nat → Prop), TPl (fun a b => ¬ F_X12_isBeside rA rB rO i lc a b = 0) pe f o ab Wr → RNB B → RNM M → RNB (LT rA rB rO i lc pe f o ab B M T).1 ∧ RNM (LT rA rB rO i lc pe f o ab B M T).2.1 ∧ ∀ y : Nat, ¬ Wr y → (LT rA rB rO i lc pe f o ab B M T).2.1 y = M y
  | 0, _, _, _, _, _, _, h, _, _ => h.elim
  | f + 1, B, M, T, o, ab, Wr, h, hB, hM => by
    obtain ⟨a, b, -, d⟩ := ltr1 (T := T) hpe h hB hM (LT_rng hpe f) pe (Nat.le_refl _)
    exact ⟨a, b, d⟩

theorem K_lt (l : Launch) (g : GG) (h0 : Nat) (vs : List Value) (b6 : Nat) (rP : Nat → Int32) (b7 : Nat) (rL : Nat → Int32) (b12 : Nat) (rA : Nat → Int32) (b13 : Nat) (rB : Nat → Int32) (b17 : Nat) (rO : Nat → Int32) (b55 : Nat) (b56 : Nat) (b57 : Nat) (i lc pe : Nat) (hlen : vs.length = 64) (h6_ : vs[6]? = some (.ref b6)) (h7_ : vs[7]? = some (.ref b7)) (h12_ : vs[12]? = some (.ref b12)) (h13_ : vs[13]? = some (.ref b13)) (h17_ : vs[17]? = some (.ref b17)) (h55_ : vs[55]? = some (.ref b55)) (h56_ : vs[56]? = some (.ref b56)) (h57_ : vs[57]? = some (.ref b57)) (hi : i < 11) (hlc : lc ≤ 12) (hL : rL i = nI lc) (hpe : pe ≤ 7) (hP : rP i = nI pe) : ∀ (f : Nat) (B M T : Nat → Int32) (o : Nat) (ab : Int32) (Wr : Nat → Prop), TPl (fun a b => ¬ F_X12_isBeside rA rB rO i lc a b = 0) pe f o ab Wr → RNB B → RNM M → MetV l g yX12_layTree cX12_layTree 6 none (f + 6) 0 0 [.ref h0, .int (nI i), .int (nI o), .int ab] [(h0, .inr (12, vs)), (b6, .inl (g.2.1 1, 11, .inl rP)), (b7, .inl (g.2.1 1, 11, .inl rL)), (b12, .inl (g.2.1 1, 132, .inl rA)), (b13, .inl (g.2.1 1, 132, .inl rB)), (b17, .inl (g.2.1 3, 132, .inl rO)), (b55, .inl (g.2.1 1, 49, .inl B)), (b56, .inl (g.2.1 1, 7, .inl M)), (b57, .inl (g.2.1 1, 7, .inl T))] (fun u => u = [(h0, .inr (12, vs)), (b6, .inl (g.2.1 1, 11, .inl rP)), (b7, .inl (g.2.1 1, 11, .inl rL)), (b12, .inl (g.2.1 1, 132, .inl rA)), (b13, .inl (g.2.1 1, 132, .inl rB)), (b17, .inl (g.2.1 3, 132, .inl rO)), (b55, .inl (g.2.1 1, 49, .inl ((LT rA rB rO i lc pe f o ab B M T).1))), (b56, .inl (g.2.1 1, 7, .inl ((LT rA rB rO i lc pe f o ab B M T).2.1))), (b57, .inl (g.2.1 1, 7, .inl ((LT rA rB rO i lc pe f o ab B M T).2.2)))])
  | 0, _, _, _, _, _, _, h, _, _ => h.elim
  | f + 1, B, M, T, o, ab, Wr, h, hB, hM => K_X12_layTree l g h0 vs b6 rP b7 rL b12 rA b13 rB b17 rO b55 B b56 M b57 T i lc pe f o ab Wr (LT rA rB rO i lc pe f) (f + 6) (by omega) hlen h6_ h7_ h12_ h13_ h17_ h55_ h56_ h57_ hi hlc hL hpe hP h hB hM (K_lt l g h0 vs b6 rP b7 rL b12 rA b13 rB b17 rO b55 b56 b57 i lc pe hlen h6_ h7_ h12_ h13_ h17_ h55_ h56_ h57_ hi hlc hL hpe hP f) (LT_rng hpe f)

theorem ps_at {rP : Nat → Int32} {i : Nat} {x : Int32} (hP : rP i = nI (tN (rP i))) (h7 : tN (rP i) ≤ 7) (h : ¬ F_X12_isPerson rP i x = 0) : x = nI (tN x) ∧ tN x < tN (rP i) := by
  unfold F_X12_isPerson at h
  obtain ⟨a, b⟩ := in_at h
  exact pm1_at hP (by omega) a b
theorem bi_at {x P : Int32} (h : P = nI (tN P) ∧ tN P ≤ 7) (q : ¬ F_X12_isIn x 0 (P - 1) = 0) : x = nI (tN x) ∧ tN x < tN P := by
  obtain ⟨a, b⟩ := in_at q
  exact pm1_at h.1 (by omega) a b
def F_X12_tree (nv : Nat) (rP : Nat → Int32) (rL : Nat → Int32) (rA : Nat → Int32) (rB : Nat → Int32) (rO : Nat → Int32) (gB : Nat → Int32) (gM : Nat → Int32) (gT : Nat → Int32) (x : Int32) (y : Int32) (z : Int32) (t : Int32) : Int32 × (Nat → Int32) × (Nat → Int32) × (Nat → Int32) := if F_X12_isValley nv x = 0 then (((-1 : Int32), gB, gM, gT)) else (if F_X12_isPerson rP (tN x) y = 0 then (((-1 : Int32), gB, gM, gT)) else (if F_X12_isPerson rP (tN x) z = 0 then (((-1 : Int32), gB, gM, gT)) else (if F_X12_isTree rP rA rB rO (tN x) (tN (rL (tN x))) = 0 then (((-1 : Int32), gB, gM, gT)) else (if t = (-1) then ((((LT rA rB rO (tN x) (tN (rL (tN x))) (tN (rP (tN x))) 14 (tN y) (-1) gB gM gT).2.2) (tN z), (LT rA rB rO (tN x) (tN (rL (tN x))) (tN (rP (tN x))) 14 (tN y) (-1) gB gM gT).1, (LT rA rB rO (tN x) (tN (rL (tN x))) (tN (rP (tN x))) 14 (tN y) (-1) gB gM gT).2.1, (LT rA rB rO (tN x) (tN (rL (tN x))) (tN (rP (tN x))) 14 (tN y) (-1) gB gM gT).2.2)) else (if (F_X12_isIn t (0 : Int32) ((((LT rA rB rO (tN x) (tN (rL (tN x))) (tN (rP (tN x))) 14 (tN y) (-1) gB gM gT).2.1) (tN z)) - (1 : Int32))) = 0 then (((-1 : Int32), (LT rA rB rO (tN x) (tN (rL (tN x))) (tN (rP (tN x))) 14 (tN y) (-1) gB gM gT).1, (LT rA rB rO (tN x) (tN (rL (tN x))) (tN (rP (tN x))) 14 (tN y) (-1) gB gM gT).2.1, (LT rA rB rO (tN x) (tN (rL (tN x))) (tN (rP (tN x))) 14 (tN y) (-1) gB gM gT).2.2)) else ((((LT rA rB rO (tN x) (tN (rL (tN x))) (tN (rP (tN x))) 14 (tN y) (-1) gB gM gT).1) (7 * (tN z) + tN t), (LT rA rB rO (tN x) (tN (rL (tN x))) (tN (rP (tN x))) 14 (tN y) (-1) gB gM gT).1, (LT rA rB rO (tN x) (tN (rL (tN x))) (tN (rP (tN x))) 14 (tN y) (-1) gB gM gT).2.1, (LT rA rB rO (tN x) (tN (rL (tN x))) (tN (rP (tN x))) 14 (tN y) (-1) gB gM gT).2.2)))))))
set_option maxHeartbeats 4000000 in
set_option maxRecDepth 100000 in
theorem K_X12_tree (l : Launch) (g : GG) (h0 : Nat) (vs : List Value) (nv : Nat) (b6 : Nat) (rP : Nat → Int32) (b7 : Nat) (rL : Nat → Int32) (b12 : Nat) (rA : Nat → Int32) (b13 : Nat) (rB : Nat → Int32) (b17 : Nat) (rO : Nat → Int32) (b55 : Nat) (gB : Nat → Int32) (b56 : Nat) (gM : Nat → Int32) (b57 : Nat) (gT : Nat → Int32) (x : Int32) (y : Int32) (z : Int32) (t : Int32) (hlen : vs.length = 64) (h18_ : vs[18]? = some (.int (nI nv))) (h6_ : vs[6]? = some (.ref b6)) (h7_ : vs[7]? = some (.ref b7)) (h12_ : vs[12]? = some (.ref b12)) (h13_ : vs[13]? = some (.ref b13)) (h17_ : vs[17]? = some (.ref b17)) (h55_ : vs[55]? = some (.ref b55)) (h56_ : vs[56]? = some (.ref b56)) (h57_ : vs[57]? = some (.ref b57)) (hn : nv ≤ 10) (hLc : ∀ j : Nat, j < nv → rL j = nI (tN (rL j)) ∧ tN (rL j) ≤ 12) (hPc : ∀ j : Nat, j < nv → rP j = nI (tN (rP j)) ∧ tN (rP j) ≤ 7) (hB : RNB gB) (hM : RNM gM) (hroot : tN x < nv → ¬ F_X12_isTree rP rA rB rO (tN x) (tN (rL (tN x))) = 0 → ∀ fo : Nat, fo < (tN (rP (tN x))) → TPl (fun a b => ¬ F_X12_isBeside rA rB rO (tN x) (tN (rL (tN x))) a b = 0) (tN (rP (tN x))) 14 fo (-1) (fun _ => True)) : MetI l g yX12_tree cX12_tree 5 (some .int) 21 0 0 [.ref h0, .int x, .int y, .int z, .int t] [(h0, .inr (12, vs)), (b6, .inl (g.2.1 1, 11, .inl rP)), (b7, .inl (g.2.1 1, 11, .inl rL)), (b12, .inl (g.2.1 1, 132, .inl rA)), (b13, .inl (g.2.1 1, 132, .inl rB)), (b17, .inl (g.2.1 3, 132, .inl rO)), (b55, .inl (g.2.1 1, 49, .inl gB)), (b56, .inl (g.2.1 1, 7, .inl gM)), (b57, .inl (g.2.1 1, 7, .inl gT))] (fun r u => r = (F_X12_tree nv rP rL rA rB rO gB gM gT x y z t).1 ∧ u = [(h0, .inr (12, (vs.set 0 (.int 0)))), (b6, .inl (g.2.1 1, 11, .inl rP)), (b7, .inl (g.2.1 1, 11, .inl rL)), (b12, .inl (g.2.1 1, 132, .inl rA)), (b13, .inl (g.2.1 1, 132, .inl rB)), (b17, .inl (g.2.1 3, 132, .inl rO)), (b55, .inl (g.2.1 1, 49, .inl ((F_X12_tree nv rP rL rA rB rO gB gM gT x y z t).2.1))), (b56, .inl (g.2.1 1, 7, .inl ((F_X12_tree nv rP rL rA rB rO gB gM gT x y z t).2.2.1))), (b57, .inl (g.2.1 1, 7, .inl ((F_X12_tree nv rP rL rA rB rO gB gM gT x y z t).2.2.2)))]) := by
  refine MetI.of (own := RX12) rfl (by decide) (Nat.le_of_ble_eq_true rfl) ?_
  intro p e s m below meth c A ls args Q hQ X hr hin hW hl
  have hx := X.1
  have hb := X.2.1
  have hl : lv_has ls 5 [(0, .ref h0), (1, .int x), (2, .int y), (3, .int z), (4, .int t)] := hl
  refine lv_aload_n (pc := 0) hx hb dX12_tree_0 rfl (lv_at hl 0 rfl) ?_
  refine lv_iconst (v := 0) (pc := 1) hx hb dX12_tree_1 (by decide) ?_
  refine r_put (ws' := [(h0, .inr (12, (vs.set 0 (.int 0)))), (b6, .inl (g.2.1 1, 11, .inl rP)), (b7, .inl (g.2.1 1, 11, .inl rL)), (b12, .inl (g.2.1 1, 132, .inl rA)), (b13, .inl (g.2.1 1, 132, .inl rB)), (b17, .inl (g.2.1 3, 132, .inl rO)), (b55, .inl (g.2.1 1, 49, .inl gB)), (b56, .inl (g.2.1 1, 7, .inl gM)), (b57, .inl (g.2.1 1, 7, .inl gT))]) X hW 0 ciX12 0 rfl (by decide) m_1231 rfl rfl rfl rfl (sv_lt (by decide) hlen) rfl dX12_tree_2 (fun H locs hW => ?_)
  refine lv_aload_n (pc := 5) hx hb dX12_tree_5 rfl (lv_at hl 0 rfl) ?_
  refine lv_iload_n (pc := 6) hx hb dX12_tree_6 rfl (lv_at hl 1 rfl) ?_
  refine c_Vi (pc := 7) (As := [.int x]) (rest := []) (wr := [(b6, .inl (g.2.1 1, 11, .inl rP)), (b7, .inl (g.2.1 1, 11, .inl rL)), (b12, .inl (g.2.1 1, 132, .inl rA)), (b13, .inl (g.2.1 1, 132, .inl rB)), (b17, .inl (g.2.1 3, 132, .inl rO)), (b55, .inl (g.2.1 1, 49, .inl gB)), (b56, .inl (g.2.1 1, 7, .inl gM)), (b57, .inl (g.2.1 1, 7, .inl gT))]) X hW 0 ciX12 rfl (K_X12_isValley l g h0 (vs.set 0 (.int 0)) nv x (sv_len hlen) (sv_ne (k := 0) (by decide) h18_)) vX12_221 [0] [1, 2, 3, 4, 5, 6, 7, 8] rfl rfl rfl rfl rfl rfl hl.1 rfl (Nat.le_of_ble_eq_true rfl) ⟨Nat.le_of_ble_eq_true rfl, Nat.le_of_ble_eq_true rfl⟩ ⟨Nat.le_of_ble_eq_true rfl, Nat.le_of_ble_eq_true rfl⟩ dX12_tree_7 (fun r1 u9 H locs hq hW => ?_)
  obtain ⟨rfl, rfl⟩ := hq
  have hW : WD g A s _ _ [(b6, .inl (g.2.1 1, 11, .inl rP)), (b7, .inl (g.2.1 1, 11, .inl rL)), (b12, .inl (g.2.1 1, 132, .inl rA)), (b13, .inl (g.2.1 1, 132, .inl rB)), (b17, .inl (g.2.1 3, 132, .inl rO)), (b55, .inl (g.2.1 1, 49, .inl gB)), (b56, .inl (g.2.1 1, 7, .inl gM)), (b57, .inl (g.2.1 1, 7, .inl gT)), (h0, .inr (12, (vs.set 0 (.int 0))))] := hW
  refine lv_if_eq (tgt := 39) (pc := 10) hx hb dX12_tree_10 rfl (fun c2 => ?_) (fun c2 => ?_)
  · refine lv_iconst (v := (-1)) (pc := 39) hx hb dX12_tree_39 (by decide) ?_
    have hF : F_X12_tree nv rP rL rA rB rO gB gM gT x y z t = ((-1 : Int32), gB, gM, gT) := show F_X12_tree nv rP rL rA rB rO gB gM gT x y z t = ((-1 : Int32), gB, gM, gT) from by rw [F_X12_tree, if_pos c2]
    exact e_i (u := [(h0, .inr (12, (vs.set 0 (.int 0)))), (b6, .inl (g.2.1 1, 11, .inl rP)), (b7, .inl (g.2.1 1, 11, .inl rL)), (b12, .inl (g.2.1 1, 132, .inl rA)), (b13, .inl (g.2.1 1, 132, .inl rB)), (b17, .inl (g.2.1 3, 132, .inl rO)), (b55, .inl (g.2.1 1, 49, .inl gB)), (b56, .inl (g.2.1 1, 7, .inl gM)), (b57, .inl (g.2.1 1, 7, .inl gT))]) X hQ hr (hW) [8, 0, 1, 2, 3, 4, 5, 6, 7] rfl rfl (⟨(congrArg Prod.fst hF).symm, by rw [hF]⟩) ⟨Nat.le_of_ble_eq_true rfl, Nat.le_of_ble_eq_true rfl⟩ dX12_tree_40
  · have hvx := rv_at (n := nv) (by omega) c2
    have hvx2 := hvx.2
    rw [hvx.1] at hl
    have hPe := hPc (tN x) hvx2
    have hPe2 := hPe.2
    have hL12 := hLc (tN x) hvx2
    refine lv_aload_n (pc := 13) hx hb dX12_tree_13 rfl (lv_at hl 0 rfl) ?_
    refine lv_iload_n (pc := 14) hx hb dX12_tree_14 rfl (lv_at hl 1 rfl) ?_
    refine lv_iload_n (pc := 15) hx hb dX12_tree_15 rfl (lv_at hl 2 rfl) ?_
    refine c_Vi (pc := 16) (As := [.int (nI (tN x)), .int y]) (rest := []) (wr := [(b7, .inl (g.2.1 1, 11, .inl rL)), (b12, .inl (g.2.1 1, 132, .inl rA)), (b13, .inl (g.2.1 1, 132, .inl rB)), (b17, .inl (g.2.1 3, 132, .inl rO)), (b55, .inl (g.2.1 1, 49, .inl gB)), (b56, .inl (g.2.1 1, 7, .inl gM)), (b57, .inl (g.2.1 1, 7, .inl gT))]) X hW 8 ciX12 rfl (K_X12_isPerson l g h0 (vs.set 0 (.int 0)) b6 rP (tN x) y (sv_len hlen) (sv_ne (k := 0) (by decide) h6_) (by omega)) vX12_237 [8, 0] [1, 2, 3, 4, 5, 6, 7] rfl rfl rfl rfl rfl rfl hl.1 rfl (Nat.le_of_ble_eq_true rfl) ⟨Nat.le_of_ble_eq_true rfl, Nat.le_of_ble_eq_true rfl⟩ ⟨Nat.le_of_ble_eq_true rfl, Nat.le_of_ble_eq_true rfl⟩ dX12_tree_16 (fun r5 u9 H locs hq hW => ?_)
    obtain ⟨rfl, rfl⟩ := hq
    have hW : WD g A s _ _ [(b7, .inl (g.2.1 1, 11, .inl rL)), (b12, .inl (g.2.1 1, 132, .inl rA)), (b13, .inl (g.2.1 1, 132, .inl rB)), (b17, .inl (g.2.1 3, 132, .inl rO)), (b55, .inl (g.2.1 1, 49, .inl gB)), (b56, .inl (g.2.1 1, 7, .inl gM)), (b57, .inl (g.2.1 1, 7, .inl gT)), (h0, .inr (12, (vs.set 0 (.int 0)))), (b6, .inl (g.2.1 1, 11, .inl rP))] := hW
    refine lv_if_eq (tgt := 39) (pc := 19) hx hb dX12_tree_19 rfl (fun c6 => ?_) (fun c6 => ?_)
    · refine lv_iconst (v := (-1)) (pc := 39) hx hb dX12_tree_39 (by decide) ?_
      have hF : F_X12_tree nv rP rL rA rB rO gB gM gT x y z t = ((-1 : Int32), gB, gM, gT) := show F_X12_tree nv rP rL rA rB rO gB gM gT x y z t = ((-1 : Int32), gB, gM, gT) from by rw [F_X12_tree, if_neg c2, if_pos c6]
      exact e_i (u := [(h0, .inr (12, (vs.set 0 (.int 0)))), (b6, .inl (g.2.1 1, 11, .inl rP)), (b7, .inl (g.2.1 1, 11, .inl rL)), (b12, .inl (g.2.1 1, 132, .inl rA)), (b13, .inl (g.2.1 1, 132, .inl rB)), (b17, .inl (g.2.1 3, 132, .inl rO)), (b55, .inl (g.2.1 1, 49, .inl gB)), (b56, .inl (g.2.1 1, 7, .inl gM)), (b57, .inl (g.2.1 1, 7, .inl gT))]) X hQ hr (hW) [7, 8, 0, 1, 2, 3, 4, 5, 6] rfl rfl (⟨(congrArg Prod.fst hF).symm, by rw [hF]⟩) ⟨Nat.le_of_ble_eq_true rfl, Nat.le_of_ble_eq_true rfl⟩ dX12_tree_40
    · have hfy := ps_at hPe.1 hPe.2 c6
      have hfy2 := hfy.2
      rw [hfy.1] at hl
      refine lv_aload_n (pc := 22) hx hb dX12_tree_22 rfl (lv_at hl 0 rfl) ?_
      refine lv_iload_n (pc := 23) hx hb dX12_tree_23 rfl (lv_at hl 1 rfl) ?_
      refine lv_iload_n (pc := 24) hx hb dX12_tree_24 rfl (lv_at hl 3 rfl) ?_
      refine c_Vi (pc := 25) (As := [.int (nI (tN x)), .int z]) (rest := []) (wr := [(b7, .inl (g.2.1 1, 11, .inl rL)), (b12, .inl (g.2.1 1, 132, .inl rA)), (b13, .inl (g.2.1 1, 132, .inl rB)), (b17, .inl (g.2.1 3, 132, .inl rO)), (b55, .inl (g.2.1 1, 49, .inl gB)), (b56, .inl (g.2.1 1, 7, .inl gM)), (b57, .inl (g.2.1 1, 7, .inl gT))]) X hW 7 ciX12 rfl (K_X12_isPerson l g h0 (vs.set 0 (.int 0)) b6 rP (tN x) z (sv_len hlen) (sv_ne (k := 0) (by decide) h6_) (by omega)) vX12_237 [7, 8] [0, 1, 2, 3, 4, 5, 6] rfl rfl rfl rfl rfl rfl hl.1 rfl (Nat.le_of_ble_eq_true rfl) ⟨Nat.le_of_ble_eq_true rfl, Nat.le_of_ble_eq_true rfl⟩ ⟨Nat.le_of_ble_eq_true rfl, Nat.le_of_ble_eq_true rfl⟩ dX12_tree_25 (fun r9 u9 H locs hq hW => ?_)
      obtain ⟨rfl, rfl⟩ := hq
      have hW : WD g A s _ _ [(b7, .inl (g.2.1 1, 11, .inl rL)), (b12, .inl (g.2.1 1, 132, .inl rA)), (b13, .inl (g.2.1 1, 132, .inl rB)), (b17, .inl (g.2.1 3, 132, .inl rO)), (b55, .inl (g.2.1 1, 49, .inl gB)), (b56, .inl (g.2.1 1, 7, .inl gM)), (b57, .inl (g.2.1 1, 7, .inl gT)), (h0, .inr (12, (vs.set 0 (.int 0)))), (b6, .inl (g.2.1 1, 11, .inl rP))] := hW
      refine lv_if_eq (tgt := 39) (pc := 28) hx hb dX12_tree_28 rfl (fun c10 => ?_) (fun c10 => ?_)
      · refine lv_iconst (v := (-1)) (pc := 39) hx hb dX12_tree_39 (by decide) ?_
        have hF : F_X12_tree nv rP rL rA rB rO gB gM gT x y z t = ((-1 : Int32), gB, gM, gT) := show F_X12_tree nv rP rL rA rB rO gB gM gT x y z t = ((-1 : Int32), gB, gM, gT) from by rw [F_X12_tree, if_neg c2, if_neg c6, if_pos c10]
        exact e_i (u := [(h0, .inr (12, (vs.set 0 (.int 0)))), (b6, .inl (g.2.1 1, 11, .inl rP)), (b7, .inl (g.2.1 1, 11, .inl rL)), (b12, .inl (g.2.1 1, 132, .inl rA)), (b13, .inl (g.2.1 1, 132, .inl rB)), (b17, .inl (g.2.1 3, 132, .inl rO)), (b55, .inl (g.2.1 1, 49, .inl gB)), (b56, .inl (g.2.1 1, 7, .inl gM)), (b57, .inl (g.2.1 1, 7, .inl gT))]) X hQ hr (hW) [7, 8, 0, 1, 2, 3, 4, 5, 6] rfl rfl (⟨(congrArg Prod.fst hF).symm, by rw [hF]⟩) ⟨Nat.le_of_ble_eq_true rfl, Nat.le_of_ble_eq_true rfl⟩ dX12_tree_40
      · have hfz := ps_at hPe.1 hPe.2 c10
        have hfz2 := hfz.2
        rw [hfz.1] at hl
        refine lv_aload_n (pc := 31) hx hb dX12_tree_31 rfl (lv_at hl 0 rfl) ?_
        refine lv_iload_n (pc := 32) hx hb dX12_tree_32 rfl (lv_at hl 1 rfl) ?_
        refine c_Vi (pc := 33) (As := [.int (nI (tN x))]) (rest := []) (wr := [(b55, .inl (g.2.1 1, 49, .inl gB)), (b56, .inl (g.2.1 1, 7, .inl gM)), (b57, .inl (g.2.1 1, 7, .inl gT))]) X hW 7 ciX12 rfl (K_X12_isTree l g h0 (vs.set 0 (.int 0)) b6 rP b7 rL b12 rA b13 rB b17 rO (tN x) (tN (rL (tN x))) (sv_len hlen) (sv_ne (k := 0) (by decide) h6_) (sv_ne (k := 0) (by decide) h7_) (sv_ne (k := 0) (by decide) h12_) (sv_ne (k := 0) (by decide) h13_) (sv_ne (k := 0) (by decide) h17_) (by omega) hL12.2 hL12.1) vX12_377 [7, 8, 0, 1, 2, 3] [4, 5, 6] rfl rfl rfl rfl rfl rfl hl.1 rfl (Nat.le_of_ble_eq_true rfl) ⟨Nat.le_of_ble_eq_true rfl, Nat.le_of_ble_eq_true rfl⟩ ⟨Nat.le_of_ble_eq_true rfl, Nat.le_of_ble_eq_true rfl⟩ dX12_tree_33 (fun r13 u9 H locs hq hW => ?_)
        obtain ⟨rfl, rfl⟩ := hq
        have hW : WD g A s _ _ [(b55, .inl (g.2.1 1, 49, .inl gB)), (b56, .inl (g.2.1 1, 7, .inl gM)), (b57, .inl (g.2.1 1, 7, .inl gT)), (h0, .inr (12, (vs.set 0 (.int 0)))), (b6, .inl (g.2.1 1, 11, .inl rP)), (b7, .inl (g.2.1 1, 11, .inl rL)), (b12, .inl (g.2.1 1, 132, .inl rA)), (b13, .inl (g.2.1 1, 132, .inl rB)), (b17, .inl (g.2.1 3, 132, .inl rO))] := hW
        refine lv_if_ne (tgt := 41) (pc := 36) hx hb dX12_tree_36 rfl (fun c14 => ?_) (fun c14 => ?_)
        · have q33 := c14
          refine lv_aload_n (pc := 41) hx hb dX12_tree_41 rfl (lv_at hl 0 rfl) ?_
          refine lv_iload_n (pc := 42) hx hb dX12_tree_42 rfl (lv_at hl 1 rfl) ?_
          refine lv_iload_n (pc := 43) hx hb dX12_tree_43 rfl (lv_at hl 2 rfl) ?_
          refine lv_iconst (v := (-1)) (pc := 44) hx hb dX12_tree_44 (by decide) ?_
          refine c_Vv (pc := 45) (As := [.int (nI (tN x)), .int (nI (tN y)), .int (-1)]) (rest := []) (wr := []) X hW 3 ciX12 rfl (K_lt l g h0 (vs.set 0 (.int 0)) b6 rP b7 rL b12 rA b13 rB b17 rO b55 b56 b57 (tN x) (tN (rL (tN x))) (tN (rP (tN x))) (sv_len hlen) (sv_ne (k := 0) (by decide) h6_) (sv_ne (k := 0) (by decide) h7_) (sv_ne (k := 0) (by decide) h12_) (sv_ne (k := 0) (by decide) h13_) (sv_ne (k := 0) (by decide) h17_) (sv_ne (k := 0) (by decide) h55_) (sv_ne (k := 0) (by decide) h56_) (sv_ne (k := 0) (by decide) h57_) (by omega) hL12.2 hL12.1 hPe.2 hPe.1 14 gB gM gT (tN y) (-1) (fun _ => True) (hroot hvx2 q33 (tN y) (by omega)) hB hM) vX12_370 [3, 4, 5, 6, 7, 8, 0, 1, 2] [] rfl rfl rfl rfl rfl rfl hl.1 rfl (Nat.le_of_ble_eq_true rfl) ⟨Nat.le_of_ble_eq_true rfl, Nat.le_of_ble_eq_true rfl⟩ ⟨Nat.le_of_ble_eq_true rfl, Nat.le_of_ble_eq_true rfl⟩ dX12_tree_45 (fun u9 H locs hq hW => ?_)
          obtain rfl := hq
          have hW : WD g A s _ _ [(h0, .inr (12, (vs.set 0 (.int 0)))), (b6, .inl (g.2.1 1, 11, .inl rP)), (b7, .inl (g.2.1 1, 11, .inl rL)), (b12, .inl (g.2.1 1, 132, .inl rA)), (b13, .inl (g.2.1 1, 132, .inl rB)), (b17, .inl (g.2.1 3, 132, .inl rO)), (b55, .inl (g.2.1 1, 49, .inl ((LT rA rB rO (tN x) (tN (rL (tN x))) (tN (rP (tN x))) 14 (tN y) (-1) gB gM gT).1))), (b56, .inl (g.2.1 1, 7, .inl ((LT rA rB rO (tN x) (tN (rL (tN x))) (tN (rP (tN x))) 14 (tN y) (-1) gB gM gT).2.1))), (b57, .inl (g.2.1 1, 7, .inl ((LT rA rB rO (tN x) (tN (rL (tN x))) (tN (rP (tN x))) 14 (tN y) (-1) gB gM gT).2.2)))] := hW
          refine lv_iload (pc := 48) hx hb dX12_tree_48 (lv_at hl 4 rfl) ?_
          refine lv_iconst (v := (-1)) (pc := 50) hx hb dX12_tree_50 (by decide) ?_
          refine lv_icmp_ne (tgt := 63) (pc := 51) hx hb dX12_tree_51 rfl (fun c16 => ?_) (fun c16 => ?_)
          · obtain ⟨hqB, hqM, -⟩ := LT_rng (rA := rA) (rB := rB) (rO := rO) (i := tN x) (lc := (tN (rL (tN x)))) hPe.2 14 gB gM gT (tN y) (-1) (fun _ => True) (hroot hvx2 q33 (tN y) (by omega)) hB hM
            refine lv_iload (pc := 63) hx hb dX12_tree_63 (lv_at hl 4 rfl) ?_
            refine lv_iconst (v := 0) (pc := 65) hx hb dX12_tree_65 (by decide) ?_
            refine lv_aload_n (pc := 66) hx hb dX12_tree_66 rfl (lv_at hl 0 rfl) ?_
            refine r_get X hW 0 ciX12 56 rfl (by decide) m_1283 rfl (sv_ne (k := 0) (by decide) h56_) dX12_tree_67 ?_
            refine lv_iload_n (pc := 70) hx hb dX12_tree_70 rfl (lv_at hl 3 rfl) ?_
            refine r_iald X hW 7 rfl (vp_in_nI (by omega) (by decide)) dX12_tree_71 ?_
            refine lv_topi (fun v18 ev18 => ?_)
            obtain rfl : v18 = ((LT rA rB rO (tN x) (tN (rL (tN x))) (tN (rP (tN x))) 14 (tN y) (-1) gB gM gT).2.1) (tN z) := ev18.trans (by rw [nI_clamp (by omega)])
            refine lv_iconst (v := 1) (pc := 72) hx hb dX12_tree_72 (by decide) ?_
            refine lv_isub (pc := 73) hx hb dX12_tree_73 ?_
            refine c_Si (pc := 74) (As := [.int t, .int 0, .int ((((LT rA rB rO (tN x) (tN (rL (tN x))) (tN (rP (tN x))) 14 (tN y) (-1) gB gM gT).2.1) (tN z)) - (1 : Int32))]) (rest := []) (wr := [(h0, .inr (12, (vs.set 0 (.int 0)))), (b6, .inl (g.2.1 1, 11, .inl rP)), (b7, .inl (g.2.1 1, 11, .inl rL)), (b12, .inl (g.2.1 1, 132, .inl rA)), (b13, .inl (g.2.1 1, 132, .inl rB)), (b17, .inl (g.2.1 3, 132, .inl rO)), (b55, .inl (g.2.1 1, 49, .inl ((LT rA rB rO (tN x) (tN (rL (tN x))) (tN (rP (tN x))) 14 (tN y) (-1) gB gM gT).1))), (b56, .inl (g.2.1 1, 7, .inl ((LT rA rB rO (tN x) (tN (rL (tN x))) (tN (rP (tN x))) 14 (tN y) (-1) gB gM gT).2.1))), (b57, .inl (g.2.1 1, 7, .inl ((LT rA rB rO (tN x) (tN (rL (tN x))) (tN (rP (tN x))) 14 (tN y) (-1) gB gM gT).2.2)))]) X hW (K_X12_isIn l g t (0 : Int32) ((((LT rA rB rO (tN x) (tN (rL (tN x))) (tN (rP (tN x))) 14 (tN y) (-1) gB gM gT).2.1) (tN z)) - (1 : Int32))) vX12_198 [] [0, 1, 2, 3, 4, 5, 6, 7, 8] rfl rfl rfl rfl rfl rfl hl.1 rfl (Nat.le_of_ble_eq_true rfl) ⟨Nat.le_of_ble_eq_true rfl, Nat.le_of_ble_eq_true rfl⟩ ⟨Nat.le_of_ble_eq_true rfl, Nat.le_of_ble_eq_true rfl⟩ dX12_tree_74 (fun r19 u9 H locs hq hW => ?_)
            obtain ⟨rfl, rfl⟩ := hq
            have hW : WD g A s _ _ [(h0, .inr (12, (vs.set 0 (.int 0)))), (b6, .inl (g.2.1 1, 11, .inl rP)), (b7, .inl (g.2.1 1, 11, .inl rL)), (b12, .inl (g.2.1 1, 132, .inl rA)), (b13, .inl (g.2.1 1, 132, .inl rB)), (b17, .inl (g.2.1 3, 132, .inl rO)), (b55, .inl (g.2.1 1, 49, .inl ((LT rA rB rO (tN x) (tN (rL (tN x))) (tN (rP (tN x))) 14 (tN y) (-1) gB gM gT).1))), (b56, .inl (g.2.1 1, 7, .inl ((LT rA rB rO (tN x) (tN (rL (tN x))) (tN (rP (tN x))) 14 (tN y) (-1) gB gM gT).2.1))), (b57, .inl (g.2.1 1, 7, .inl ((LT rA rB rO (tN x) (tN (rL (tN x))) (tN (rP (tN x))) 14 (tN y) (-1) gB gM gT).2.2)))] := hW
            refine lv_if_eq (tgt := 95) (pc := 77) hx hb dX12_tree_77 rfl (fun c20 => ?_) (fun c20 => ?_)
            · refine lv_iconst (v := (-1)) (pc := 95) hx hb dX12_tree_95 (by decide) ?_
              have hF : F_X12_tree nv rP rL rA rB rO gB gM gT x y z t = ((-1 : Int32), (LT rA rB rO (tN x) (tN (rL (tN x))) (tN (rP (tN x))) 14 (tN y) (-1) gB gM gT).1, (LT rA rB rO (tN x) (tN (rL (tN x))) (tN (rP (tN x))) 14 (tN y) (-1) gB gM gT).2.1, (LT rA rB rO (tN x) (tN (rL (tN x))) (tN (rP (tN x))) 14 (tN y) (-1) gB gM gT).2.2) := show F_X12_tree nv rP rL rA rB rO gB gM gT x y z t = ((-1 : Int32), (LT rA rB rO (tN x) (tN (rL (tN x))) (tN (rP (tN x))) 14 (tN y) (-1) gB gM gT).1, (LT rA rB rO (tN x) (tN (rL (tN x))) (tN (rP (tN x))) 14 (tN y) (-1) gB gM gT).2.1, (LT rA rB rO (tN x) (tN (rL (tN x))) (tN (rP (tN x))) 14 (tN y) (-1) gB gM gT).2.2) from by rw [F_X12_tree, if_neg c2, if_neg c6, if_neg c10, if_neg c14, if_neg c16, if_pos c20]
              exact e_i (u := [(h0, .inr (12, (vs.set 0 (.int 0)))), (b6, .inl (g.2.1 1, 11, .inl rP)), (b7, .inl (g.2.1 1, 11, .inl rL)), (b12, .inl (g.2.1 1, 132, .inl rA)), (b13, .inl (g.2.1 1, 132, .inl rB)), (b17, .inl (g.2.1 3, 132, .inl rO)), (b55, .inl (g.2.1 1, 49, .inl ((LT rA rB rO (tN x) (tN (rL (tN x))) (tN (rP (tN x))) 14 (tN y) (-1) gB gM gT).1))), (b56, .inl (g.2.1 1, 7, .inl ((LT rA rB rO (tN x) (tN (rL (tN x))) (tN (rP (tN x))) 14 (tN y) (-1) gB gM gT).2.1))), (b57, .inl (g.2.1 1, 7, .inl ((LT rA rB rO (tN x) (tN (rL (tN x))) (tN (rP (tN x))) 14 (tN y) (-1) gB gM gT).2.2)))]) X hQ hr (hW) [0, 1, 2, 3, 4, 5, 6, 7, 8] rfl rfl (⟨(congrArg Prod.fst hF).symm, by rw [hF]⟩) ⟨Nat.le_of_ble_eq_true rfl, Nat.le_of_ble_eq_true rfl⟩ dX12_tree_96
            · have hqm9 := (hqM (tN z) (by omega)).2
              obtain ⟨ht1, ht2⟩ := bi_at (hqM (tN z) (by omega)) c20
              rw [ht1] at hl
              refine lv_aload_n (pc := 80) hx hb dX12_tree_80 rfl (lv_at hl 0 rfl) ?_
              refine r_get X hW 0 ciX12 55 rfl (by decide) m_1282 rfl (sv_ne (k := 0) (by decide) h55_) dX12_tree_81 ?_
              refine lv_bipush (v := 7) (pc := 84) hx hb dX12_tree_84 (by decide) ?_
              refine lv_iload_n (pc := 86) hx hb dX12_tree_86 rfl (lv_at hl 3 rfl) ?_
              refine lv_imul (pc := 87) hx hb dX12_tree_87 ?_
              refine lv_topi (fun v23 ev23 => ?_)
              obtain rfl : v23 = nI (7 * (tN z)) := ev23.trans (pk_mul 7 (tN z))
              refine lv_iload (pc := 88) hx hb dX12_tree_88 (lv_at hl 4 rfl) ?_
              refine lv_iadd (pc := 90) hx hb dX12_tree_90 ?_
              refine lv_topi (fun v24 ev24 => ?_)
              obtain rfl : v24 = nI (7 * (tN z) + tN t) := ev24.trans (nI_add _ _)
              refine r_iald X hW 6 rfl (vp_in_nI (by omega) (by decide)) dX12_tree_91 ?_
              refine lv_topi (fun v25 ev25 => ?_)
              obtain rfl : v25 = ((LT rA rB rO (tN x) (tN (rL (tN x))) (tN (rP (tN x))) 14 (tN y) (-1) gB gM gT).1) (7 * (tN z) + tN t) := ev25.trans (by rw [nI_clamp (by omega)])
              refine lv_goto (tgt := 96) (pc := 92) hx hb dX12_tree_92 rfl ?_
              have hF : F_X12_tree nv rP rL rA rB rO gB gM gT x y z t = (((LT rA rB rO (tN x) (tN (rL (tN x))) (tN (rP (tN x))) 14 (tN y) (-1) gB gM gT).1) (7 * (tN z) + tN t), (LT rA rB rO (tN x) (tN (rL (tN x))) (tN (rP (tN x))) 14 (tN y) (-1) gB gM gT).1, (LT rA rB rO (tN x) (tN (rL (tN x))) (tN (rP (tN x))) 14 (tN y) (-1) gB gM gT).2.1, (LT rA rB rO (tN x) (tN (rL (tN x))) (tN (rP (tN x))) 14 (tN y) (-1) gB gM gT).2.2) := show F_X12_tree nv rP rL rA rB rO gB gM gT x y z t = (((LT rA rB rO (tN x) (tN (rL (tN x))) (tN (rP (tN x))) 14 (tN y) (-1) gB gM gT).1) (7 * (tN z) + tN t), (LT rA rB rO (tN x) (tN (rL (tN x))) (tN (rP (tN x))) 14 (tN y) (-1) gB gM gT).1, (LT rA rB rO (tN x) (tN (rL (tN x))) (tN (rP (tN x))) 14 (tN y) (-1) gB gM gT).2.1, (LT rA rB rO (tN x) (tN (rL (tN x))) (tN (rP (tN x))) 14 (tN y) (-1) gB gM gT).2.2) from by rw [F_X12_tree, if_neg c2, if_neg c6, if_neg c10, if_neg c14, if_neg c16, if_neg c20]
              exact e_i (u := [(h0, .inr (12, (vs.set 0 (.int 0)))), (b6, .inl (g.2.1 1, 11, .inl rP)), (b7, .inl (g.2.1 1, 11, .inl rL)), (b12, .inl (g.2.1 1, 132, .inl rA)), (b13, .inl (g.2.1 1, 132, .inl rB)), (b17, .inl (g.2.1 3, 132, .inl rO)), (b55, .inl (g.2.1 1, 49, .inl ((LT rA rB rO (tN x) (tN (rL (tN x))) (tN (rP (tN x))) 14 (tN y) (-1) gB gM gT).1))), (b56, .inl (g.2.1 1, 7, .inl ((LT rA rB rO (tN x) (tN (rL (tN x))) (tN (rP (tN x))) 14 (tN y) (-1) gB gM gT).2.1))), (b57, .inl (g.2.1 1, 7, .inl ((LT rA rB rO (tN x) (tN (rL (tN x))) (tN (rP (tN x))) 14 (tN y) (-1) gB gM gT).2.2)))]) X hQ hr (hW) [0, 1, 2, 3, 4, 5, 6, 7, 8] rfl rfl (⟨(congrArg Prod.fst hF).symm, by rw [hF]⟩) ⟨Nat.le_of_ble_eq_true rfl, Nat.le_of_ble_eq_true rfl⟩ dX12_tree_96
          · refine lv_aload_n (pc := 54) hx hb dX12_tree_54 rfl (lv_at hl 0 rfl) ?_
            refine r_get X hW 0 ciX12 57 rfl (by decide) m_1284 rfl (sv_ne (k := 0) (by decide) h57_) dX12_tree_55 ?_
            refine lv_iload_n (pc := 58) hx hb dX12_tree_58 rfl (lv_at hl 3 rfl) ?_
            refine r_iald X hW 8 rfl (vp_in_nI (by omega) (by decide)) dX12_tree_59 ?_
            refine lv_topi (fun v27 ev27 => ?_)
            obtain rfl : v27 = ((LT rA rB rO (tN x) (tN (rL (tN x))) (tN (rP (tN x))) 14 (tN y) (-1) gB gM gT).2.2) (tN z) := ev27.trans (by rw [nI_clamp (by omega)])
            refine lv_goto (tgt := 96) (pc := 60) hx hb dX12_tree_60 rfl ?_
            have hF : F_X12_tree nv rP rL rA rB rO gB gM gT x y z t = (((LT rA rB rO (tN x) (tN (rL (tN x))) (tN (rP (tN x))) 14 (tN y) (-1) gB gM gT).2.2) (tN z), (LT rA rB rO (tN x) (tN (rL (tN x))) (tN (rP (tN x))) 14 (tN y) (-1) gB gM gT).1, (LT rA rB rO (tN x) (tN (rL (tN x))) (tN (rP (tN x))) 14 (tN y) (-1) gB gM gT).2.1, (LT rA rB rO (tN x) (tN (rL (tN x))) (tN (rP (tN x))) 14 (tN y) (-1) gB gM gT).2.2) := show F_X12_tree nv rP rL rA rB rO gB gM gT x y z t = (((LT rA rB rO (tN x) (tN (rL (tN x))) (tN (rP (tN x))) 14 (tN y) (-1) gB gM gT).2.2) (tN z), (LT rA rB rO (tN x) (tN (rL (tN x))) (tN (rP (tN x))) 14 (tN y) (-1) gB gM gT).1, (LT rA rB rO (tN x) (tN (rL (tN x))) (tN (rP (tN x))) 14 (tN y) (-1) gB gM gT).2.1, (LT rA rB rO (tN x) (tN (rL (tN x))) (tN (rP (tN x))) 14 (tN y) (-1) gB gM gT).2.2) from by rw [F_X12_tree, if_neg c2, if_neg c6, if_neg c10, if_neg c14, if_pos c16]
            exact e_i (u := [(h0, .inr (12, (vs.set 0 (.int 0)))), (b6, .inl (g.2.1 1, 11, .inl rP)), (b7, .inl (g.2.1 1, 11, .inl rL)), (b12, .inl (g.2.1 1, 132, .inl rA)), (b13, .inl (g.2.1 1, 132, .inl rB)), (b17, .inl (g.2.1 3, 132, .inl rO)), (b55, .inl (g.2.1 1, 49, .inl ((LT rA rB rO (tN x) (tN (rL (tN x))) (tN (rP (tN x))) 14 (tN y) (-1) gB gM gT).1))), (b56, .inl (g.2.1 1, 7, .inl ((LT rA rB rO (tN x) (tN (rL (tN x))) (tN (rP (tN x))) 14 (tN y) (-1) gB gM gT).2.1))), (b57, .inl (g.2.1 1, 7, .inl ((LT rA rB rO (tN x) (tN (rL (tN x))) (tN (rP (tN x))) 14 (tN y) (-1) gB gM gT).2.2)))]) X hQ hr (hW) [0, 1, 2, 3, 4, 5, 6, 7, 8] rfl rfl (⟨(congrArg Prod.fst hF).symm, by rw [hF]⟩) ⟨Nat.le_of_ble_eq_true rfl, Nat.le_of_ble_eq_true rfl⟩ dX12_tree_96
        · refine lv_iconst (v := (-1)) (pc := 39) hx hb dX12_tree_39 (by decide) ?_
          have hF : F_X12_tree nv rP rL rA rB rO gB gM gT x y z t = ((-1 : Int32), gB, gM, gT) := show F_X12_tree nv rP rL rA rB rO gB gM gT x y z t = ((-1 : Int32), gB, gM, gT) from by rw [F_X12_tree, if_neg c2, if_neg c6, if_neg c10, if_pos c14]
          exact e_i (u := [(h0, .inr (12, (vs.set 0 (.int 0)))), (b6, .inl (g.2.1 1, 11, .inl rP)), (b7, .inl (g.2.1 1, 11, .inl rL)), (b12, .inl (g.2.1 1, 132, .inl rA)), (b13, .inl (g.2.1 1, 132, .inl rB)), (b17, .inl (g.2.1 3, 132, .inl rO)), (b55, .inl (g.2.1 1, 49, .inl gB)), (b56, .inl (g.2.1 1, 7, .inl gM)), (b57, .inl (g.2.1 1, 7, .inl gT))]) X hQ hr (hW) [3, 4, 5, 6, 7, 8, 0, 1, 2] rfl rfl (⟨(congrArg Prod.fst hF).symm, by rw [hF]⟩) ⟨Nat.le_of_ble_eq_true rfl, Nat.le_of_ble_eq_true rfl⟩ dX12_tree_40

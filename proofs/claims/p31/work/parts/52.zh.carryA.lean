theorem dX12_allKnow_0 : decode cX12_allKnow 0 = .ok (.iconst 0, 1) := DX12_allKnow _ _ _ rfl
theorem dX12_allKnow_1 : decode cX12_allKnow 1 = .ok (.istore 4, 2) := DX12_allKnow _ _ _ rfl
theorem dX12_allKnow_3 : decode cX12_allKnow 3 = .ok (.iload 4, 2) := DX12_allKnow _ _ _ rfl
theorem dX12_allKnow_5 : decode cX12_allKnow 5 = .ok (.aload_n 0, 1) := DX12_allKnow _ _ _ rfl
theorem dX12_allKnow_6 : decode cX12_allKnow 6 = .ok (.getfield 13, 3) := DX12_allKnow _ _ _ rfl
theorem dX12_allKnow_9 : decode cX12_allKnow 9 = .ok (.iload_n 1, 1) := DX12_allKnow _ _ _ rfl
theorem dX12_allKnow_10 : decode cX12_allKnow 10 = .ok (.iaload, 1) := DX12_allKnow _ _ _ rfl
theorem dX12_allKnow_11 : decode cX12_allKnow 11 = .ok (.if_icmp .ge 42, 3) := DX12_allKnow _ _ _ rfl
theorem dX12_allKnow_53 : decode cX12_allKnow 53 = .ok (.iconst 1, 1) := DX12_allKnow _ _ _ rfl
theorem dX12_allKnow_54 : decode cX12_allKnow 54 = .ok (.ireturn, 1) := DX12_allKnow _ _ _ rfl
theorem dX12_allKnow_14 : decode cX12_allKnow 14 = .ok (.iload 4, 2) := DX12_allKnow _ _ _ rfl
theorem dX12_allKnow_16 : decode cX12_allKnow 16 = .ok (.iload_n 3, 1) := DX12_allKnow _ _ _ rfl
theorem dX12_allKnow_17 : decode cX12_allKnow 17 = .ok (.if_icmp .eq 30, 3) := DX12_allKnow _ _ _ rfl
theorem dX12_allKnow_47 : decode cX12_allKnow 47 = .ok (.iinc 4 1, 3) := DX12_allKnow _ _ _ rfl
theorem dX12_allKnow_50 : decode cX12_allKnow 50 = .ok (.goto (-47), 3) := DX12_allKnow _ _ _ rfl
theorem dX12_allKnow_20 : decode cX12_allKnow 20 = .ok (.aload_n 0, 1) := DX12_allKnow _ _ _ rfl
theorem dX12_allKnow_21 : decode cX12_allKnow 21 = .ok (.iload_n 1, 1) := DX12_allKnow _ _ _ rfl
theorem dX12_allKnow_22 : decode cX12_allKnow 22 = .ok (.iload 4, 2) := DX12_allKnow _ _ _ rfl
theorem dX12_allKnow_24 : decode cX12_allKnow 24 = .ok (.invokevirtual 277, 3) := DX12_allKnow _ _ _ rfl
theorem dX12_allKnow_27 : decode cX12_allKnow 27 = .ok (.aload_n 0, 1) := DX12_allKnow _ _ _ rfl
theorem dX12_allKnow_28 : decode cX12_allKnow 28 = .ok (.getfield 82, 3) := DX12_allKnow _ _ _ rfl
theorem dX12_allKnow_31 : decode cX12_allKnow 31 = .ok (.bipush 7, 2) := DX12_allKnow _ _ _ rfl
theorem dX12_allKnow_33 : decode cX12_allKnow 33 = .ok (.iload_n 2, 1) := DX12_allKnow _ _ _ rfl
theorem dX12_allKnow_34 : decode cX12_allKnow 34 = .ok (.imul, 1) := DX12_allKnow _ _ _ rfl
theorem dX12_allKnow_35 : decode cX12_allKnow 35 = .ok (.iload 4, 2) := DX12_allKnow _ _ _ rfl
theorem dX12_allKnow_37 : decode cX12_allKnow 37 = .ok (.iadd, 1) := DX12_allKnow _ _ _ rfl
theorem dX12_allKnow_38 : decode cX12_allKnow 38 = .ok (.iaload, 1) := DX12_allKnow _ _ _ rfl
theorem dX12_allKnow_39 : decode cX12_allKnow 39 = .ok (.iconst (-1), 1) := DX12_allKnow _ _ _ rfl
theorem dX12_allKnow_40 : decode cX12_allKnow 40 = .ok (.ixor, 1) := DX12_allKnow _ _ _ rfl
theorem dX12_allKnow_41 : decode cX12_allKnow 41 = .ok (.iand, 1) := DX12_allKnow _ _ _ rfl
theorem dX12_allKnow_42 : decode cX12_allKnow 42 = .ok (.ifCond .eq 5, 3) := DX12_allKnow _ _ _ rfl
theorem dX12_allKnow_45 : decode cX12_allKnow 45 = .ok (.iconst 0, 1) := DX12_allKnow _ _ _ rfl
theorem dX12_allKnow_46 : decode cX12_allKnow 46 = .ok (.ireturn, 1) := DX12_allKnow _ _ _ rfl
def L1_X12_allKnow (rM : Nat → Int32) (aF : Nat → Int32) (v9 : Nat) (pe : Nat) (ho : Nat) (wo : Int32) : Nat → Nat → Int32
  | 0, _ => (0)
  | m_ + 1, j1 => if nI pe ≤ nI j1 then ((1 : Int32)) else (if nI j1 = wo then (L1_X12_allKnow rM aF v9 pe ho wo m_ (j1 + 1) ) else (if (F_X12_mustOf rM v9 j1) &&& ((aF (7 * ho + j1)) ^^^ (-1 : Int32)) = 0 then (L1_X12_allKnow rM aF v9 pe ho wo m_ (j1 + 1) ) else ((0 : Int32))))
theorem L1_X12_allKnow_z (rM : Nat → Int32) (aF : Nat → Int32) (v9 : Nat) (pe : Nat) (ho : Nat) (wo : Int32) : ∀ (m_ j1 : Nat) , narrow .boolean (.int (L1_X12_allKnow rM aF v9 pe ho wo m_ j1)) = .int (L1_X12_allKnow rM aF v9 pe ho wo m_ j1)
  | 0, j1 => by rw [L1_X12_allKnow]; first | done | rfl | (dsimp only; rfl)
  | m_ + 1, j1 => by
    rw [L1_X12_allKnow]; (repeat' split) <;> first | rfl | (dsimp only; rfl) | exact L1_X12_allKnow_z rM aF v9 pe ho wo m_ _ | exact L1_X12_allKnow_z ..
def F_X12_allKnow (rM : Nat → Int32) (aF : Nat → Int32) (v9 : Nat) (pe : Nat) (ho : Nat) (wo : Int32) : Int32 := L1_X12_allKnow rM aF v9 pe ho wo (pe + 1) 0 
theorem F_X12_allKnow_z {rM : Nat → Int32} {aF : Nat → Int32} {v9 : Nat} {pe : Nat} {ho : Nat} {wo : Int32} : narrow .boolean (.int (F_X12_allKnow rM aF v9 pe ho wo)) = .int (F_X12_allKnow rM aF v9 pe ho wo) := by unfold F_X12_allKnow; (repeat' split) <;> first | rfl | (dsimp only; rfl) | exact L1_X12_allKnow_z .. | (dsimp only; exact L1_X12_allKnow_z ..)
set_option maxHeartbeats 4000000 in
set_option maxRecDepth 100000 in
theorem K_X12_allKnow (l : Launch) (g : GG) (h0 : Nat) (vs : List Value) (b6 : Nat) (rP : Nat → Int32) (b10 : Nat) (rM : Nat → Int32) (b30 : Nat) (aF : Nat → Int32) (v9 : Nat) (pe : Nat) (ho : Nat) (wo : Int32) (hlen : vs.length = 64) (h6_ : vs[6]? = some (.ref b6)) (h10_ : vs[10]? = some (.ref b10)) (h30_ : vs[30]? = some (.ref b30)) (hv9 : v9 < 11) (hpe : pe ≤ 7) (hP : rP v9 = nI pe) (hho : ho ≤ 24) : MetI l g yX12_allKnow cX12_allKnow 5 (some .boolean) 1 0 0 [.ref h0, .int (nI v9), .int (nI ho), .int wo] [(h0, .inr (12, vs)), (b6, .inl (g.2.1 1, 11, .inl rP)), (b10, .inl (g.2.1 1, 44, .inl rM)), (b30, .inl (g.2.1 1, 175, .inl aF))] (fun r u => r = (F_X12_allKnow rM aF v9 pe ho wo) ∧ u = [(h0, .inr (12, vs)), (b6, .inl (g.2.1 1, 11, .inl rP)), (b10, .inl (g.2.1 1, 44, .inl rM)), (b30, .inl (g.2.1 1, 175, .inl aF))]) := by
  refine MetI.of (own := RX12) rfl (by decide) (Nat.le_of_ble_eq_true rfl) ?_
  intro p e s m below meth c A ls args Q hQ X hr hin hW hl
  have hx := X.1
  have hb := X.2.1
  have hl : lv_has ls 5 [(0, .ref h0), (1, .int (nI v9)), (2, .int (nI ho)), (3, .int wo)] := hl
  refine lv_iconst (v := 0) (pc := 0) hx hb dX12_allKnow_0 (by decide) ?_
  refine lv_istore (lv' := [(4, .int 0), (0, .ref h0), (1, .int (nI v9)), (2, .int (nI ho)), (3, .int wo)]) (pc := 1) hx hb dX12_allKnow_1 hl (by decide) rfl (fun ls hl => ?_)
  have loop1 : ∀ (fu1 : Nat) (j1 : Nat), (pe < fu1 + j1) → (j1 ≤ pe) → (L1_X12_allKnow rM aF v9 pe ho wo fu1 j1 = F_X12_allKnow rM aF v9 pe ho wo) → ∀ (H : Heap) (locs : List Loc) (ls : Array Slot), WD g A s H locs [(h0, .inr (12, vs)), (b6, .inl (g.2.1 1, 11, .inl rP)), (b10, .inl (g.2.1 1, 44, .inl rM)), (b30, .inl (g.2.1 1, 175, .inl aF))] → lv_has ls 5 [(4, .int (nI j1)), (0, .ref h0), (1, .int (nI v9)), (2, .int (nI ho)), (3, .int wo)] → W p l e (RM 1 0 0) s m args below meth c H locs 0 0 Q (F0 m 3 ls []) := by
    intro fu1
    induction fu1 with
    | zero =>
      intro j1 hm1 hj1 hst1
      exact absurd hm1 (by omega)
    | succ fu1 ih1 =>
      intro j1 hm1 hj1 hst1 H locs ls hW hl
      refine lv_iload (pc := 3) hx hb dX12_allKnow_3 (lv_at hl 0 rfl) ?_
      refine lv_aload_n (pc := 5) hx hb dX12_allKnow_5 rfl (lv_at hl 1 rfl) ?_
      refine r_get X hW 0 ciX12 6 rfl (by decide) m_1237 rfl h6_ dX12_allKnow_6 ?_
      refine lv_iload_n (pc := 9) hx hb dX12_allKnow_9 rfl (lv_at hl 2 rfl) ?_
      refine r_iald X hW 1 rfl (vp_in_nI (by omega) (by decide)) dX12_allKnow_10 ?_
      refine lv_topi (fun v1 ev1 => ?_)
      obtain rfl : v1 = rP v9 := ev1.trans (by rw [nI_clamp (by omega)])
      rw [hP]
      refine lv_icmp_ge (tgt := 53) (pc := 11) hx hb dX12_allKnow_11 rfl (fun c2 => ?_) (fun c2 => ?_)
      · have h3 : pe ≤ j1 := (nI_leI (a := pe) (b := j1) (by omega) (by omega)).mp c2
        refine lv_iconst (v := 1) (pc := 53) hx hb dX12_allKnow_53 (by decide) ?_
        have hF : F_X12_allKnow rM aF v9 pe ho wo = (1 : Int32) := hst1.symm.trans (show L1_X12_allKnow rM aF v9 pe ho wo (fu1 + 1) j1 = (1 : Int32) from by rw [L1_X12_allKnow, if_pos c2])
        exact e_z (u := [(h0, .inr (12, vs)), (b6, .inl (g.2.1 1, 11, .inl rP)), (b10, .inl (g.2.1 1, 44, .inl rM)), (b30, .inl (g.2.1 1, 175, .inl aF))]) X hQ hr (hW) rfl [0, 1, 2, 3] rfl rfl (⟨hF.symm, rfl⟩) ⟨Nat.le_of_ble_eq_true rfl, Nat.le_of_ble_eq_true rfl⟩ dX12_allKnow_54
      · have h4 : ¬ (pe ≤ j1) := fun q => c2 ((nI_leI (a := pe) (b := j1) (by omega) (by omega)).mpr q)
        refine lv_iload (pc := 14) hx hb dX12_allKnow_14 (lv_at hl 0 rfl) ?_
        refine lv_iload_n (pc := 16) hx hb dX12_allKnow_16 rfl (lv_at hl 4 rfl) ?_
        refine lv_icmp_eq (tgt := 47) (pc := 17) hx hb dX12_allKnow_17 rfl (fun c5 => ?_) (fun c5 => ?_)
        · refine lv_iinc (v := nI (j1 + 1)) (lv' := [(4, .int (nI (j1 + 1))), (0, .ref h0), (1, .int (nI v9)), (2, .int (nI ho)), (3, .int wo)]) (pc := 47) hx hb dX12_allKnow_47 hl (k := 0) rfl (nI_add j1 1) (by decide) rfl (fun ls hl => ?_)
          refine lv_goto (tgt := 3) (pc := 50) hx hb dX12_allKnow_50 rfl ?_
          exact ih1 (j1 + 1)  (by omega) (by omega) ((show L1_X12_allKnow rM aF v9 pe ho wo (fu1 + 1) j1 = L1_X12_allKnow rM aF v9 pe ho wo fu1 (j1 + 1)  from by rw [L1_X12_allKnow, if_neg c2, if_pos c5]).symm.trans hst1) _ _ _ hW (lv_sub hl [0, 1, 2, 3, 4] rfl)
        · refine lv_aload_n (pc := 20) hx hb dX12_allKnow_20 rfl (lv_at hl 1 rfl) ?_
          refine lv_iload_n (pc := 21) hx hb dX12_allKnow_21 rfl (lv_at hl 2 rfl) ?_
          refine lv_iload (pc := 22) hx hb dX12_allKnow_22 (lv_at hl 0 rfl) ?_
          refine c_Vi (pc := 24) (As := [.int (nI v9), .int (nI j1)]) (rest := []) (wr := [(b6, .inl (g.2.1 1, 11, .inl rP)), (b30, .inl (g.2.1 1, 175, .inl aF))]) X hW 0 ciX12 rfl (K_X12_mustOf l g h0 vs b10 rM v9 j1 hlen h10_ (by omega)) vX12_277 [0, 2] [1, 3] rfl rfl rfl rfl rfl rfl hl.1 rfl (Nat.le_of_ble_eq_true rfl) ⟨Nat.le_of_ble_eq_true rfl, Nat.le_of_ble_eq_true rfl⟩ ⟨Nat.le_of_ble_eq_true rfl, Nat.le_of_ble_eq_true rfl⟩ dX12_allKnow_24 (fun r8 u9 H locs hq hW => ?_)
          obtain ⟨rfl, rfl⟩ := hq
          have hW : WD g A s _ _ [(b6, .inl (g.2.1 1, 11, .inl rP)), (b30, .inl (g.2.1 1, 175, .inl aF)), (h0, .inr (12, vs)), (b10, .inl (g.2.1 1, 44, .inl rM))] := hW
          refine lv_aload_n (pc := 27) hx hb dX12_allKnow_27 rfl (lv_at hl 1 rfl) ?_
          refine r_get X hW 2 ciX12 30 rfl (by decide) m_1261 rfl h30_ dX12_allKnow_28 ?_
          refine lv_bipush (v := 7) (pc := 31) hx hb dX12_allKnow_31 (by decide) ?_
          refine lv_iload_n (pc := 33) hx hb dX12_allKnow_33 rfl (lv_at hl 3 rfl) ?_
          refine lv_imul (pc := 34) hx hb dX12_allKnow_34 ?_
          refine lv_topi (fun v9 ev9 => ?_)
          obtain rfl : v9 = nI (7 * ho) := ev9.trans (pk_mul 7 ho)
          refine lv_iload (pc := 35) hx hb dX12_allKnow_35 (lv_at hl 0 rfl) ?_
          refine lv_iadd (pc := 37) hx hb dX12_allKnow_37 ?_
          refine lv_topi (fun v10 ev10 => ?_)
          obtain rfl : v10 = nI (7 * ho + j1) := ev10.trans (nI_add _ _)
          refine r_iald X hW 1 rfl (vp_in_nI (by omega) (by decide)) dX12_allKnow_38 ?_
          refine lv_topi (fun v11 ev11 => ?_)
          obtain rfl : v11 = aF (7 * ho + j1) := ev11.trans (by rw [nI_clamp (by omega)])
          refine lv_iconst (v := (-1)) (pc := 39) hx hb dX12_allKnow_39 (by decide) ?_
          refine lv_ixor (pc := 40) hx hb dX12_allKnow_40 ?_
          refine lv_iand (pc := 41) hx hb dX12_allKnow_41 ?_
          refine lv_if_eq (tgt := 47) (pc := 42) hx hb dX12_allKnow_42 rfl (fun c12 => ?_) (fun c12 => ?_)
          · refine lv_iinc (v := nI (j1 + 1)) (lv' := [(4, .int (nI (j1 + 1))), (0, .ref h0), (1, .int (nI v9)), (2, .int (nI ho)), (3, .int wo)]) (pc := 47) hx hb dX12_allKnow_47 hl (k := 0) rfl (nI_add j1 1) (by decide) rfl (fun ls hl => ?_)
            refine lv_goto (tgt := 3) (pc := 50) hx hb dX12_allKnow_50 rfl ?_
            have hW : WD g A s _ _ [(h0, .inr (12, vs)), (b6, .inl (g.2.1 1, 11, .inl rP)), (b10, .inl (g.2.1 1, 44, .inl rM)), (b30, .inl (g.2.1 1, 175, .inl aF))] := hW.pick [2, 0, 3, 1] rfl rfl
            exact ih1 (j1 + 1)  (by omega) (by omega) ((show L1_X12_allKnow rM aF v9 pe ho wo (fu1 + 1) j1 = L1_X12_allKnow rM aF v9 pe ho wo fu1 (j1 + 1)  from by rw [L1_X12_allKnow, if_neg c2, if_neg c5, if_pos c12]).symm.trans hst1) _ _ _ hW (lv_sub hl [0, 1, 2, 3, 4] rfl)
          · refine lv_iconst (v := 0) (pc := 45) hx hb dX12_allKnow_45 (by decide) ?_
            have hF : F_X12_allKnow rM aF v9 pe ho wo = (0 : Int32) := hst1.symm.trans (show L1_X12_allKnow rM aF v9 pe ho wo (fu1 + 1) j1 = (0 : Int32) from by rw [L1_X12_allKnow, if_neg c2, if_neg c5, if_neg c12])
            exact e_z (u := [(h0, .inr (12, vs)), (b6, .inl (g.2.1 1, 11, .inl rP)), (b10, .inl (g.2.1 1, 44, .inl rM)), (b30, .inl (g.2.1 1, 175, .inl aF))]) X hQ hr (hW) rfl [2, 0, 3, 1] rfl rfl (⟨hF.symm, rfl⟩) ⟨Nat.le_of_ble_eq_true rfl, Nat.le_of_ble_eq_true rfl⟩ dX12_allKnow_46
  exact loop1 (pe + 1) 0  (by omega) (by omega) (show F_X12_allKnow rM aF v9 pe ho wo = L1_X12_allKnow rM aF v9 pe ho wo (pe + 1) 0  from rfl).symm _ _ _ hW (lv_sub hl [0, 1, 2, 3, 4] rfl)

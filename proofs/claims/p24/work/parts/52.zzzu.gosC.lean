theorem dX11_fewest_14 : decode cX11_fewest 14 = .ok (.aload_n 0, 1) := DX11_fewest _ _ _ rfl
theorem dX11_fewest_15 : decode cX11_fewest 15 = .ok (.getfield 52, 3) := DX11_fewest _ _ _ rfl
theorem dX11_fewest_18 : decode cX11_fewest 18 = .ok (.aload_n 2, 1) := DX11_fewest _ _ _ rfl
theorem dX11_fewest_19 : decode cX11_fewest 19 = .ok (.invokevirtual 253, 3) := DX11_fewest _ _ _ rfl
theorem dX11_gossip_10 : decode cX11_gossip 10 = .ok (.iload_n 2, 1) := DX11_gossip _ _ _ rfl
theorem dX11_gossip_11 : decode cX11_gossip 11 = .ok (.ifCond .lt 15, 3) := DX11_gossip _ _ _ rfl
theorem dX11_gossip_14 : decode cX11_gossip 14 = .ok (.iload_n 2, 1) := DX11_gossip _ _ _ rfl
theorem dX11_gossip_15 : decode cX11_gossip 15 = .ok (.aload_n 0, 1) := DX11_gossip _ _ _ rfl
theorem dX11_gossip_16 : decode cX11_gossip 16 = .ok (.getfield 52, 3) := DX11_gossip _ _ _ rfl
theorem dX11_gossip_19 : decode cX11_gossip 19 = .ok (.aload_n 3, 1) := DX11_gossip _ _ _ rfl
theorem dX11_gossip_20 : decode cX11_gossip 20 = .ok (.invokevirtual 253, 3) := DX11_gossip _ _ _ rfl
theorem dX11_gossip_23 : decode cX11_gossip 23 = .ok (.if_icmp .lt 5, 3) := DX11_gossip _ _ _ rfl
theorem dX11_gossip_28 : decode cX11_gossip 28 = .ok (.aload_n 3, 1) := DX11_gossip _ _ _ rfl
theorem dX11_gossip_29 : decode cX11_gossip 29 = .ok (.getfield 256, 3) := DX11_gossip _ _ _ rfl
theorem dX11_gossip_32 : decode cX11_gossip 32 = .ok (.iload_n 2, 1) := DX11_gossip _ _ _ rfl
theorem dX11_gossip_33 : decode cX11_gossip 33 = .ok (.iaload, 1) := DX11_gossip _ _ _ rfl
theorem dX11_gossip_34 : decode cX11_gossip 34 = .ok (.ireturn, 1) := DX11_gossip _ _ _ rfl
def L2_X3_canEnds (kn : Nat → Int32) (j1 : Nat) (j2 : Nat) (x4_2 : Int32) : Int32 := if hasv (kn j2) (nI j1) = 0 then (x4_2 + 1) else (x4_2)
def L2_X3_canEnd (kn : Nat → Int32) (j1 : Nat) (i0_ : Int32) : Nat → Int32
  | 0 => (i0_)
  | k_ + 1 => L2_X3_canEnds kn j1 k_ (L2_X3_canEnd kn j1 i0_ k_)
def L3_X3_canEnds (kn : Nat → Int32) (j1 : Nat) (j3 : Nat) (x4_3 : Int32) : Int32 := if hasv (kn j3) (nI j1) = 0 then (x4_3 + 1) else (x4_3)
def L3_X3_canEnd (kn : Nat → Int32) (j1 : Nat) (i0_ : Int32) : Nat → Int32
  | 0 => (i0_)
  | k_ + 1 => L3_X3_canEnds kn j1 k_ (L3_X3_canEnd kn j1 i0_ k_)
def L1_X3_canEnd (al : Int32) (pe : Nat) (kn : Nat → Int32) (le : Int32) : Nat → Nat → Int32 → Int32
  | 0, _, _ => (0)
  | m_ + 1, j1, x2_1 => if nI pe ≤ nI j1 then (if (2 : Int32) * le < x2_1 then ((0 : Int32)) else ((1 : Int32))) else (if kn j1 = al then (if (L2_X3_canEnd kn j1 (0 : Int32) pe) ≤ le then (L1_X3_canEnd al pe kn le m_ (j1 + 1) x2_1) else ((0 : Int32))) else (if (L3_X3_canEnd kn j1 (0 : Int32) pe) ≤ le then (L1_X3_canEnd al pe kn le m_ (j1 + 1) (x2_1 + 1)) else ((0 : Int32))))
def F_X3_canEnd (al : Int32) (pe : Nat) (kn : Nat → Int32) (le : Int32) : Int32 := L1_X3_canEnd al pe kn le (pe + 1) 0 (0 : Int32)
set_option maxHeartbeats 4000000 in
set_option maxRecDepth 100000 in
theorem K_X3_canEnd (l : Launch) (g : GG) (g3 : Nat) (al : Int32) (kk : Nat) (v : Nat) (v3 : Nat) (v4 : Nat) (v5 : Nat) (v6 : Nat) (v7 : Nat) (v8 : Nat) (v9 : Nat) (v10 : Nat) (v11 : Nat) (v12 : Nat) (v13 : Nat) (v15 : Nat) (pe : Nat) (lc : Int32) (de : Int32) (gl : Int32) (kn : Nat → Int32) (le : Int32) (hpe : pe ≤ 5) : MetI l g yX3_canEnd cX3_canEnd 6 (some .boolean) 1 0 0 [.ref g3, .int le] [(g3, .inr (3, [.ref v, .int al, .ref kk])), (kk, .inl (g.2.1 1, 5, .inl kn)), (v, .inr (10, [.int (nI pe), .int lc, .int de, .ref v3, .ref v4, .ref v5, .ref v6, .ref v7, .ref v8, .ref v9, .ref v10, .ref v11, .ref v12, .ref v13, .int gl, .ref v15]))] (fun r u => r = (F_X3_canEnd al pe kn le) ∧ u = [(g3, .inr (3, [.ref v, .int al, .ref kk])), (kk, .inl (g.2.1 1, 5, .inl kn)), (v, .inr (10, [.int (nI pe), .int lc, .int de, .ref v3, .ref v4, .ref v5, .ref v6, .ref v7, .ref v8, .ref v9, .ref v10, .ref v11, .ref v12, .ref v13, .int gl, .ref v15]))]) := by
  refine MetI.of (own := RX3) rfl (by decide) (Nat.le_of_ble_eq_true rfl) ?_
  intro p e s m below meth c A ls args Q hQ X hr hin hW hl
  have hx := X.1
  have hb := X.2.1
  have hl : lv_has ls 6 [(0, .ref g3), (1, .int le)] := hl
  refine lv_iconst (v := 0) (pc := 0) hx hb dX3_canEnd_0 (by decide) ?_
  refine lv_istore_n (lv' := [(2, .int 0), (0, .ref g3), (1, .int le)]) (pc := 1) hx hb dX3_canEnd_1 rfl hl (by decide) rfl (fun ls hl => ?_)
  refine lv_iconst (v := 0) (pc := 2) hx hb dX3_canEnd_2 (by decide) ?_
  refine lv_istore_n (lv' := [(3, .int 0), (2, .int 0), (0, .ref g3), (1, .int le)]) (pc := 3) hx hb dX3_canEnd_3 rfl hl (by decide) rfl (fun ls hl => ?_)
  have loop1 : ∀ (fu1 : Nat) (j1 : Nat) (x2_1 : Int32), (pe < fu1 + j1) → (j1 ≤ pe) → (L1_X3_canEnd al pe kn le fu1 j1 x2_1 = F_X3_canEnd al pe kn le) → ∀ (H : Heap) (locs : List Loc) (ls : Array Slot), WD g A s H locs [(g3, .inr (3, [.ref v, .int al, .ref kk])), (kk, .inl (g.2.1 1, 5, .inl kn)), (v, .inr (10, [.int (nI pe), .int lc, .int de, .ref v3, .ref v4, .ref v5, .ref v6, .ref v7, .ref v8, .ref v9, .ref v10, .ref v11, .ref v12, .ref v13, .int gl, .ref v15]))] → lv_has ls 6 [(3, .int (nI j1)), (2, .int x2_1), (0, .ref g3), (1, .int le)] → W p l e (RM 1 0 0) s m args below meth c H locs 0 0 Q (F0 m 4 ls []) := by
    intro fu1
    induction fu1 with
    | zero =>
      intro j1 x2_1 hm1 hj1 hst1
      exact absurd hm1 (by omega)
    | succ fu1 ih1 =>
      intro j1 x2_1 hm1 hj1 hst1 H locs ls hW hl
      refine lv_iload_n (pc := 4) hx hb dX3_canEnd_4 rfl (lv_at hl 0 rfl) ?_
      refine lv_aload_n (pc := 5) hx hb dX3_canEnd_5 rfl (lv_at hl 2 rfl) ?_
      refine r_get X hW 0 ciX3 0 rfl (by decide) m_196 rfl rfl dX3_canEnd_6 ?_
      refine r_getN X hW 2 ciX10 0 rfl (by decide) m_274 rfl rfl dX3_canEnd_9 ?_
      refine lv_icmp_ge (tgt := 86) (pc := 12) hx hb dX3_canEnd_12 rfl (fun c1 => ?_) (fun c1 => ?_)
      · have h2 : pe ≤ j1 := (nI_leI (a := pe) (b := j1) (by omega) (by omega)).mp c1
        refine lv_iload_n (pc := 86) hx hb dX3_canEnd_86 rfl (lv_at hl 1 rfl) ?_
        refine lv_iconst (v := 2) (pc := 87) hx hb dX3_canEnd_87 (by decide) ?_
        refine lv_iload_n (pc := 88) hx hb dX3_canEnd_88 rfl (lv_at hl 3 rfl) ?_
        refine lv_imul (pc := 89) hx hb dX3_canEnd_89 ?_
        refine lv_icmp_gt (tgt := 97) (pc := 90) hx hb dX3_canEnd_90 rfl (fun c3 => ?_) (fun c3 => ?_)
        · refine lv_iconst (v := 0) (pc := 97) hx hb dX3_canEnd_97 (by decide) ?_
          have hF : F_X3_canEnd al pe kn le = (0 : Int32) := hst1.symm.trans (show L1_X3_canEnd al pe kn le (fu1 + 1) j1 x2_1 = (0 : Int32) from by rw [L1_X3_canEnd, if_pos c1, if_pos c3])
          exact e_z (u := [(g3, .inr (3, [.ref v, .int al, .ref kk])), (kk, .inl (g.2.1 1, 5, .inl kn)), (v, .inr (10, [.int (nI pe), .int lc, .int de, .ref v3, .ref v4, .ref v5, .ref v6, .ref v7, .ref v8, .ref v9, .ref v10, .ref v11, .ref v12, .ref v13, .int gl, .ref v15]))]) X hQ hr (hW) rfl [0, 1, 2] rfl rfl (⟨hF.symm, rfl⟩) ⟨Nat.le_of_ble_eq_true rfl, Nat.le_of_ble_eq_true rfl⟩ dX3_canEnd_98
        · refine lv_iconst (v := 1) (pc := 93) hx hb dX3_canEnd_93 (by decide) ?_
          refine lv_goto (tgt := 98) (pc := 94) hx hb dX3_canEnd_94 rfl ?_
          have hF : F_X3_canEnd al pe kn le = (1 : Int32) := hst1.symm.trans (show L1_X3_canEnd al pe kn le (fu1 + 1) j1 x2_1 = (1 : Int32) from by rw [L1_X3_canEnd, if_pos c1, if_neg c3])
          exact e_z (u := [(g3, .inr (3, [.ref v, .int al, .ref kk])), (kk, .inl (g.2.1 1, 5, .inl kn)), (v, .inr (10, [.int (nI pe), .int lc, .int de, .ref v3, .ref v4, .ref v5, .ref v6, .ref v7, .ref v8, .ref v9, .ref v10, .ref v11, .ref v12, .ref v13, .int gl, .ref v15]))]) X hQ hr (hW) rfl [0, 1, 2] rfl rfl (⟨hF.symm, rfl⟩) ⟨Nat.le_of_ble_eq_true rfl, Nat.le_of_ble_eq_true rfl⟩ dX3_canEnd_98
      · have h6 : ¬ (pe ≤ j1) := fun q => c1 ((nI_leI (a := pe) (b := j1) (by omega) (by omega)).mpr q)
        refine lv_aload_n (pc := 15) hx hb dX3_canEnd_15 rfl (lv_at hl 2 rfl) ?_
        refine r_get X hW 0 ciX3 2 rfl (by decide) m_198 rfl rfl dX3_canEnd_16 ?_
        refine lv_iload_n (pc := 19) hx hb dX3_canEnd_19 rfl (lv_at hl 0 rfl) ?_
        refine r_iald X hW 1 rfl (vp_in_nI (by omega) (by decide)) dX3_canEnd_20 ?_
        refine lv_topi (fun v7 ev7 => ?_)
        obtain rfl : v7 = kn j1 := ev7.trans (by rw [nI_clamp (by omega)])
        refine lv_aload_n (pc := 21) hx hb dX3_canEnd_21 rfl (lv_at hl 2 rfl) ?_
        refine r_get X hW 0 ciX3 1 rfl (by decide) m_197 rfl rfl dX3_canEnd_22 ?_
        refine lv_icmp_eq (tgt := 31) (pc := 25) hx hb dX3_canEnd_25 rfl (fun c8 => ?_) (fun c8 => ?_)
        · refine lv_iconst (v := 0) (pc := 31) hx hb dX3_canEnd_31 (by decide) ?_
          refine lv_istore (lv' := [(4, .int 0), (3, .int (nI j1)), (2, .int x2_1), (0, .ref g3), (1, .int le)]) (pc := 32) hx hb dX3_canEnd_32 hl (by decide) rfl (fun ls hl => ?_)
          refine lv_iconst (v := 0) (pc := 34) hx hb dX3_canEnd_34 (by decide) ?_
          refine lv_istore (lv' := [(5, .int 0), (4, .int 0), (3, .int (nI j1)), (2, .int x2_1), (0, .ref g3), (1, .int le)]) (pc := 35) hx hb dX3_canEnd_35 hl (by decide) rfl (fun ls hl => ?_)
          have loop2 : ∀ (fu2 : Nat) (j2 : Nat) (x4_2 : Int32), (pe < fu2 + j2) → (j2 ≤ pe) → (x4_2 = L2_X3_canEnd kn j1 (0 : Int32) j2) → ∀ (H : Heap) (locs : List Loc) (ls : Array Slot), WD g A s H locs [(g3, .inr (3, [.ref v, .int al, .ref kk])), (kk, .inl (g.2.1 1, 5, .inl kn)), (v, .inr (10, [.int (nI pe), .int lc, .int de, .ref v3, .ref v4, .ref v5, .ref v6, .ref v7, .ref v8, .ref v9, .ref v10, .ref v11, .ref v12, .ref v13, .int gl, .ref v15]))] → lv_has ls 6 [(5, .int (nI j2)), (4, .int x4_2), (3, .int (nI j1)), (2, .int x2_1), (0, .ref g3), (1, .int le)] → W p l e (RM 1 0 0) s m args below meth c H locs 0 0 Q (F0 m 37 ls []) := by
            intro fu2
            induction fu2 with
            | zero =>
              intro j2 x4_2 hm2 hj2 hst2
              exact absurd hm2 (by omega)
            | succ fu2 ih2 =>
              intro j2 x4_2 hm2 hj2 hst2 H locs ls hW hl
              refine lv_iload (pc := 37) hx hb dX3_canEnd_37 (lv_at hl 0 rfl) ?_
              refine lv_aload_n (pc := 39) hx hb dX3_canEnd_39 rfl (lv_at hl 4 rfl) ?_
              refine r_get X hW 0 ciX3 0 rfl (by decide) m_196 rfl rfl dX3_canEnd_40 ?_
              refine r_getN X hW 2 ciX10 0 rfl (by decide) m_274 rfl rfl dX3_canEnd_43 ?_
              refine lv_icmp_ge (tgt := 72) (pc := 46) hx hb dX3_canEnd_46 rfl (fun c10 => ?_) (fun c10 => ?_)
              · have h11 : pe ≤ j2 := (nI_leI (a := pe) (b := j2) (by omega) (by omega)).mp c10
                have hN2 : j2 = pe := by omega
                rw [hN2] at hst2
                subst hst2
                have hW : WD g A s _ _ [(g3, .inr (3, [.ref v, .int al, .ref kk])), (kk, .inl (g.2.1 1, 5, .inl kn)), (v, .inr (10, [.int (nI pe), .int lc, .int de, .ref v3, .ref v4, .ref v5, .ref v6, .ref v7, .ref v8, .ref v9, .ref v10, .ref v11, .ref v12, .ref v13, .int gl, .ref v15]))] := hW
                refine lv_iload (pc := 72) hx hb dX3_canEnd_72 (lv_at hl 1 rfl) ?_
                refine lv_iload_n (pc := 74) hx hb dX3_canEnd_74 rfl (lv_at hl 5 rfl) ?_
                refine lv_icmp_le (tgt := 80) (pc := 75) hx hb dX3_canEnd_75 rfl (fun c12 => ?_) (fun c12 => ?_)
                · refine lv_iinc (v := nI (j1 + 1)) (lv' := [(3, .int (nI (j1 + 1))), (5, .int (nI j2)), (4, .int (L2_X3_canEnd kn j1 (0 : Int32) pe)), (2, .int x2_1), (0, .ref g3), (1, .int le)]) (pc := 80) hx hb dX3_canEnd_80 hl (k := 2) rfl (nI_add j1 1) (by decide) rfl (fun ls hl => ?_)
                  refine lv_goto (tgt := 4) (pc := 83) hx hb dX3_canEnd_83 rfl ?_
                  exact ih1 (j1 + 1) x2_1 (by omega) (by omega) ((show L1_X3_canEnd al pe kn le (fu1 + 1) j1 x2_1 = L1_X3_canEnd al pe kn le fu1 (j1 + 1) x2_1 from by rw [L1_X3_canEnd, if_neg c1, if_pos c8, if_pos c12]).symm.trans hst1) _ _ _ hW (lv_sub hl [0, 3, 4, 5] rfl)
                · refine lv_iconst (v := 0) (pc := 78) hx hb dX3_canEnd_78 (by decide) ?_
                  have hF : F_X3_canEnd al pe kn le = (0 : Int32) := hst1.symm.trans (show L1_X3_canEnd al pe kn le (fu1 + 1) j1 x2_1 = (0 : Int32) from by rw [L1_X3_canEnd, if_neg c1, if_pos c8, if_neg c12])
                  exact e_z (u := [(g3, .inr (3, [.ref v, .int al, .ref kk])), (kk, .inl (g.2.1 1, 5, .inl kn)), (v, .inr (10, [.int (nI pe), .int lc, .int de, .ref v3, .ref v4, .ref v5, .ref v6, .ref v7, .ref v8, .ref v9, .ref v10, .ref v11, .ref v12, .ref v13, .int gl, .ref v15]))]) X hQ hr (hW) rfl [0, 1, 2] rfl rfl (⟨hF.symm, rfl⟩) ⟨Nat.le_of_ble_eq_true rfl, Nat.le_of_ble_eq_true rfl⟩ dX3_canEnd_79
              · have h15 : ¬ (pe ≤ j2) := fun q => c10 ((nI_leI (a := pe) (b := j2) (by omega) (by omega)).mpr q)
                refine lv_aload_n (pc := 49) hx hb dX3_canEnd_49 rfl (lv_at hl 4 rfl) ?_
                refine r_get X hW 0 ciX3 2 rfl (by decide) m_198 rfl rfl dX3_canEnd_50 ?_
                refine lv_iload (pc := 53) hx hb dX3_canEnd_53 (lv_at hl 0 rfl) ?_
                refine r_iald X hW 1 rfl (vp_in_nI (by omega) (by decide)) dX3_canEnd_55 ?_
                refine lv_topi (fun v16 ev16 => ?_)
                obtain rfl : v16 = kn j2 := ev16.trans (by rw [nI_clamp (by omega)])
                refine lv_iload_n (pc := 56) hx hb dX3_canEnd_56 rfl (lv_at hl 2 rfl) ?_
                refine c_SNi (pc := 57) (As := [.int (kn j2), .int (nI j1)]) (rest := []) (wr := [(g3, .inr (3, [.ref v, .int al, .ref kk])), (kk, .inl (g.2.1 1, 5, .inl kn)), (v, .inr (10, [.int (nI pe), .int lc, .int de, .ref v3, .ref v4, .ref v5, .ref v6, .ref v7, .ref v8, .ref v9, .ref v10, .ref v11, .ref v12, .ref v13, .int gl, .ref v15]))]) X hW (C_X11_has l g (kn j2) (nI j1)) vX3_73 [] [0, 1, 2] rfl rfl rfl rfl rfl rfl hl.1 rfl (Nat.le_of_ble_eq_true rfl) ⟨Nat.le_of_ble_eq_true rfl, Nat.le_of_ble_eq_true rfl⟩ ⟨Nat.le_of_ble_eq_true rfl, Nat.le_of_ble_eq_true rfl⟩ dX3_canEnd_57 (fun r17 u9 H locs hq hW => ?_)
                obtain ⟨rfl, rfl⟩ := hq
                have hW : WD g A s _ _ [(g3, .inr (3, [.ref v, .int al, .ref kk])), (kk, .inl (g.2.1 1, 5, .inl kn)), (v, .inr (10, [.int (nI pe), .int lc, .int de, .ref v3, .ref v4, .ref v5, .ref v6, .ref v7, .ref v8, .ref v9, .ref v10, .ref v11, .ref v12, .ref v13, .int gl, .ref v15]))] := hW
                refine lv_if_ne (tgt := 66) (pc := 60) hx hb dX3_canEnd_60 rfl (fun c18 => ?_) (fun c18 => ?_)
                · refine lv_iinc (v := nI (j2 + 1)) (lv' := [(5, .int (nI (j2 + 1))), (4, .int x4_2), (3, .int (nI j1)), (2, .int x2_1), (0, .ref g3), (1, .int le)]) (pc := 66) hx hb dX3_canEnd_66 hl (k := 0) rfl (nI_add j2 1) (by decide) rfl (fun ls hl => ?_)
                  refine lv_goto (tgt := 37) (pc := 69) hx hb dX3_canEnd_69 rfl ?_
                  exact ih2 (j2 + 1) x4_2 (by omega) (by omega) (by rw [L2_X3_canEnd, ← hst2]; exact (show L2_X3_canEnds kn j1 j2 x4_2 = x4_2 from by rw [L2_X3_canEnds, if_neg c18]).symm) _ _ _ hW (lv_sub hl [0, 1, 2, 3, 4, 5] rfl)
                · refine lv_iinc (v := x4_2 + 1) (lv' := [(4, .int (x4_2 + 1)), (5, .int (nI j2)), (3, .int (nI j1)), (2, .int x2_1), (0, .ref g3), (1, .int le)]) (pc := 63) hx hb dX3_canEnd_63 hl (k := 1) rfl (rfl) (by decide) rfl (fun ls hl => ?_)
                  refine lv_iinc (v := nI (j2 + 1)) (lv' := [(5, .int (nI (j2 + 1))), (4, .int (x4_2 + 1)), (3, .int (nI j1)), (2, .int x2_1), (0, .ref g3), (1, .int le)]) (pc := 66) hx hb dX3_canEnd_66 hl (k := 1) rfl (nI_add j2 1) (by decide) rfl (fun ls hl => ?_)
                  refine lv_goto (tgt := 37) (pc := 69) hx hb dX3_canEnd_69 rfl ?_
                  exact ih2 (j2 + 1) (x4_2 + 1) (by omega) (by omega) (by rw [L2_X3_canEnd, ← hst2]; exact (show L2_X3_canEnds kn j1 j2 x4_2 = x4_2 + 1 from by rw [L2_X3_canEnds, if_pos c18]).symm) _ _ _ hW (lv_sub hl [0, 1, 2, 3, 4, 5] rfl)
          exact loop2 (pe + 1) 0 (0 : Int32) (by omega) (by omega) rfl _ _ _ hW (lv_sub hl [0, 1, 2, 3, 4, 5] rfl)
        · refine lv_iinc (v := x2_1 + 1) (lv' := [(2, .int (x2_1 + 1)), (3, .int (nI j1)), (0, .ref g3), (1, .int le)]) (pc := 28) hx hb dX3_canEnd_28 hl (k := 1) rfl (rfl) (by decide) rfl (fun ls hl => ?_)
          refine lv_iconst (v := 0) (pc := 31) hx hb dX3_canEnd_31 (by decide) ?_
          refine lv_istore (lv' := [(4, .int 0), (2, .int (x2_1 + 1)), (3, .int (nI j1)), (0, .ref g3), (1, .int le)]) (pc := 32) hx hb dX3_canEnd_32 hl (by decide) rfl (fun ls hl => ?_)
          refine lv_iconst (v := 0) (pc := 34) hx hb dX3_canEnd_34 (by decide) ?_
          refine lv_istore (lv' := [(5, .int 0), (4, .int 0), (2, .int (x2_1 + 1)), (3, .int (nI j1)), (0, .ref g3), (1, .int le)]) (pc := 35) hx hb dX3_canEnd_35 hl (by decide) rfl (fun ls hl => ?_)
          have loop3 : ∀ (fu3 : Nat) (j3 : Nat) (x4_3 : Int32), (pe < fu3 + j3) → (j3 ≤ pe) → (x4_3 = L3_X3_canEnd kn j1 (0 : Int32) j3) → ∀ (H : Heap) (locs : List Loc) (ls : Array Slot), WD g A s H locs [(g3, .inr (3, [.ref v, .int al, .ref kk])), (kk, .inl (g.2.1 1, 5, .inl kn)), (v, .inr (10, [.int (nI pe), .int lc, .int de, .ref v3, .ref v4, .ref v5, .ref v6, .ref v7, .ref v8, .ref v9, .ref v10, .ref v11, .ref v12, .ref v13, .int gl, .ref v15]))] → lv_has ls 6 [(5, .int (nI j3)), (4, .int x4_3), (2, .int (x2_1 + 1)), (3, .int (nI j1)), (0, .ref g3), (1, .int le)] → W p l e (RM 1 0 0) s m args below meth c H locs 0 0 Q (F0 m 37 ls []) := by
            intro fu3
            induction fu3 with
            | zero =>
              intro j3 x4_3 hm3 hj3 hst3
              exact absurd hm3 (by omega)
            | succ fu3 ih3 =>
              intro j3 x4_3 hm3 hj3 hst3 H locs ls hW hl
              refine lv_iload (pc := 37) hx hb dX3_canEnd_37 (lv_at hl 0 rfl) ?_
              refine lv_aload_n (pc := 39) hx hb dX3_canEnd_39 rfl (lv_at hl 4 rfl) ?_
              refine r_get X hW 0 ciX3 0 rfl (by decide) m_196 rfl rfl dX3_canEnd_40 ?_
              refine r_getN X hW 2 ciX10 0 rfl (by decide) m_274 rfl rfl dX3_canEnd_43 ?_
              refine lv_icmp_ge (tgt := 72) (pc := 46) hx hb dX3_canEnd_46 rfl (fun c22 => ?_) (fun c22 => ?_)
              · have h23 : pe ≤ j3 := (nI_leI (a := pe) (b := j3) (by omega) (by omega)).mp c22
                have hN3 : j3 = pe := by omega
                rw [hN3] at hst3
                subst hst3
                have hW : WD g A s _ _ [(g3, .inr (3, [.ref v, .int al, .ref kk])), (kk, .inl (g.2.1 1, 5, .inl kn)), (v, .inr (10, [.int (nI pe), .int lc, .int de, .ref v3, .ref v4, .ref v5, .ref v6, .ref v7, .ref v8, .ref v9, .ref v10, .ref v11, .ref v12, .ref v13, .int gl, .ref v15]))] := hW
                refine lv_iload (pc := 72) hx hb dX3_canEnd_72 (lv_at hl 1 rfl) ?_
                refine lv_iload_n (pc := 74) hx hb dX3_canEnd_74 rfl (lv_at hl 5 rfl) ?_
                refine lv_icmp_le (tgt := 80) (pc := 75) hx hb dX3_canEnd_75 rfl (fun c24 => ?_) (fun c24 => ?_)
                · refine lv_iinc (v := nI (j1 + 1)) (lv' := [(3, .int (nI (j1 + 1))), (5, .int (nI j3)), (4, .int (L3_X3_canEnd kn j1 (0 : Int32) pe)), (2, .int (x2_1 + 1)), (0, .ref g3), (1, .int le)]) (pc := 80) hx hb dX3_canEnd_80 hl (k := 3) rfl (nI_add j1 1) (by decide) rfl (fun ls hl => ?_)
                  refine lv_goto (tgt := 4) (pc := 83) hx hb dX3_canEnd_83 rfl ?_
                  exact ih1 (j1 + 1) (x2_1 + 1) (by omega) (by omega) ((show L1_X3_canEnd al pe kn le (fu1 + 1) j1 x2_1 = L1_X3_canEnd al pe kn le fu1 (j1 + 1) (x2_1 + 1) from by rw [L1_X3_canEnd, if_neg c1, if_neg c8, if_pos c24]).symm.trans hst1) _ _ _ hW (lv_sub hl [0, 3, 4, 5] rfl)
                · refine lv_iconst (v := 0) (pc := 78) hx hb dX3_canEnd_78 (by decide) ?_
                  have hF : F_X3_canEnd al pe kn le = (0 : Int32) := hst1.symm.trans (show L1_X3_canEnd al pe kn le (fu1 + 1) j1 x2_1 = (0 : Int32) from by rw [L1_X3_canEnd, if_neg c1, if_neg c8, if_neg c24])
                  exact e_z (u := [(g3, .inr (3, [.ref v, .int al, .ref kk])), (kk, .inl (g.2.1 1, 5, .inl kn)), (v, .inr (10, [.int (nI pe), .int lc, .int de, .ref v3, .ref v4, .ref v5, .ref v6, .ref v7, .ref v8, .ref v9, .ref v10, .ref v11, .ref v12, .ref v13, .int gl, .ref v15]))]) X hQ hr (hW) rfl [0, 1, 2] rfl rfl (⟨hF.symm, rfl⟩) ⟨Nat.le_of_ble_eq_true rfl, Nat.le_of_ble_eq_true rfl⟩ dX3_canEnd_79
              · have h27 : ¬ (pe ≤ j3) := fun q => c22 ((nI_leI (a := pe) (b := j3) (by omega) (by omega)).mpr q)
                refine lv_aload_n (pc := 49) hx hb dX3_canEnd_49 rfl (lv_at hl 4 rfl) ?_
                refine r_get X hW 0 ciX3 2 rfl (by decide) m_198 rfl rfl dX3_canEnd_50 ?_
                refine lv_iload (pc := 53) hx hb dX3_canEnd_53 (lv_at hl 0 rfl) ?_
                refine r_iald X hW 1 rfl (vp_in_nI (by omega) (by decide)) dX3_canEnd_55 ?_
                refine lv_topi (fun v28 ev28 => ?_)
                obtain rfl : v28 = kn j3 := ev28.trans (by rw [nI_clamp (by omega)])
                refine lv_iload_n (pc := 56) hx hb dX3_canEnd_56 rfl (lv_at hl 3 rfl) ?_
                refine c_SNi (pc := 57) (As := [.int (kn j3), .int (nI j1)]) (rest := []) (wr := [(g3, .inr (3, [.ref v, .int al, .ref kk])), (kk, .inl (g.2.1 1, 5, .inl kn)), (v, .inr (10, [.int (nI pe), .int lc, .int de, .ref v3, .ref v4, .ref v5, .ref v6, .ref v7, .ref v8, .ref v9, .ref v10, .ref v11, .ref v12, .ref v13, .int gl, .ref v15]))]) X hW (C_X11_has l g (kn j3) (nI j1)) vX3_73 [] [0, 1, 2] rfl rfl rfl rfl rfl rfl hl.1 rfl (Nat.le_of_ble_eq_true rfl) ⟨Nat.le_of_ble_eq_true rfl, Nat.le_of_ble_eq_true rfl⟩ ⟨Nat.le_of_ble_eq_true rfl, Nat.le_of_ble_eq_true rfl⟩ dX3_canEnd_57 (fun r29 u9 H locs hq hW => ?_)
                obtain ⟨rfl, rfl⟩ := hq
                have hW : WD g A s _ _ [(g3, .inr (3, [.ref v, .int al, .ref kk])), (kk, .inl (g.2.1 1, 5, .inl kn)), (v, .inr (10, [.int (nI pe), .int lc, .int de, .ref v3, .ref v4, .ref v5, .ref v6, .ref v7, .ref v8, .ref v9, .ref v10, .ref v11, .ref v12, .ref v13, .int gl, .ref v15]))] := hW
                refine lv_if_ne (tgt := 66) (pc := 60) hx hb dX3_canEnd_60 rfl (fun c30 => ?_) (fun c30 => ?_)
                · refine lv_iinc (v := nI (j3 + 1)) (lv' := [(5, .int (nI (j3 + 1))), (4, .int x4_3), (2, .int (x2_1 + 1)), (3, .int (nI j1)), (0, .ref g3), (1, .int le)]) (pc := 66) hx hb dX3_canEnd_66 hl (k := 0) rfl (nI_add j3 1) (by decide) rfl (fun ls hl => ?_)
                  refine lv_goto (tgt := 37) (pc := 69) hx hb dX3_canEnd_69 rfl ?_
                  exact ih3 (j3 + 1) x4_3 (by omega) (by omega) (by rw [L3_X3_canEnd, ← hst3]; exact (show L3_X3_canEnds kn j1 j3 x4_3 = x4_3 from by rw [L3_X3_canEnds, if_neg c30]).symm) _ _ _ hW (lv_sub hl [0, 1, 2, 3, 4, 5] rfl)
                · refine lv_iinc (v := x4_3 + 1) (lv' := [(4, .int (x4_3 + 1)), (5, .int (nI j3)), (2, .int (x2_1 + 1)), (3, .int (nI j1)), (0, .ref g3), (1, .int le)]) (pc := 63) hx hb dX3_canEnd_63 hl (k := 1) rfl (rfl) (by decide) rfl (fun ls hl => ?_)
                  refine lv_iinc (v := nI (j3 + 1)) (lv' := [(5, .int (nI (j3 + 1))), (4, .int (x4_3 + 1)), (2, .int (x2_1 + 1)), (3, .int (nI j1)), (0, .ref g3), (1, .int le)]) (pc := 66) hx hb dX3_canEnd_66 hl (k := 1) rfl (nI_add j3 1) (by decide) rfl (fun ls hl => ?_)
                  refine lv_goto (tgt := 37) (pc := 69) hx hb dX3_canEnd_69 rfl ?_
                  exact ih3 (j3 + 1) (x4_3 + 1) (by omega) (by omega) (by rw [L3_X3_canEnd, ← hst3]; exact (show L3_X3_canEnds kn j1 j3 x4_3 = x4_3 + 1 from by rw [L3_X3_canEnds, if_pos c30]).symm) _ _ _ hW (lv_sub hl [0, 1, 2, 3, 4, 5] rfl)
          exact loop3 (pe + 1) 0 (0 : Int32) (by omega) (by omega) rfl _ _ _ hW (lv_sub hl [0, 1, 2, 3, 4, 5] rfl)
  exact loop1 (pe + 1) 0 (0 : Int32) (by omega) (by omega) (show F_X3_canEnd al pe kn le = L1_X3_canEnd al pe kn le (pe + 1) 0 (0 : Int32) from rfl).symm _ _ _ hW (lv_sub hl [0, 1, 2, 3] rfl)

abbrev GOF : Type := (Nat → Int32) → (Nat → Int32) → Int32 × (Nat → Int32) × (Nat → Int32)
def L1_X3_goOn (lc : Nat) (L : Nat → Int32) (dn : Nat) (R : GOF) : Nat → Nat → (Nat → Int32) → (Nat → Int32) → Int32 × (Nat → Int32) × (Nat → Int32)
  | 0, _, _, _ => (0, fun _ => 0, fun _ => 0)
  | m_ + 1, j1, fkk_1, fv15_1 => if (nI lc) ≤ nI j1 then (((0 : Int32), fkk_1, fv15_1)) else (if b1 (L (j1 * 6 + 4)) = 0 then (if fkk_1 (lnA L j1) = fkk_1 (lnB L j1) then (L1_X3_goOn lc L dn R m_ (j1 + 1) fkk_1 fv15_1) else (if (R (upd (upd fkk_1 (lnA L j1) ((fkk_1 (lnA L j1)) ||| (fkk_1 (lnB L j1)))) (lnB L j1) ((fkk_1 (lnA L j1)) ||| (fkk_1 (lnB L j1)))) (upd fv15_1 dn (nI j1))).1 = 0 then (L1_X3_goOn lc L dn R m_ (j1 + 1) (upd (upd ((R (upd (upd fkk_1 (lnA L j1) ((fkk_1 (lnA L j1)) ||| (fkk_1 (lnB L j1)))) (lnB L j1) ((fkk_1 (lnA L j1)) ||| (fkk_1 (lnB L j1)))) (upd fv15_1 dn (nI j1))).2.1) (lnA L j1) (fkk_1 (lnA L j1))) (lnB L j1) (fkk_1 (lnB L j1))) ((R (upd (upd fkk_1 (lnA L j1) ((fkk_1 (lnA L j1)) ||| (fkk_1 (lnB L j1)))) (lnB L j1) ((fkk_1 (lnA L j1)) ||| (fkk_1 (lnB L j1)))) (upd fv15_1 dn (nI j1))).2.2)) else (((1 : Int32), (R (upd (upd fkk_1 (lnA L j1) ((fkk_1 (lnA L j1)) ||| (fkk_1 (lnB L j1)))) (lnB L j1) ((fkk_1 (lnA L j1)) ||| (fkk_1 (lnB L j1)))) (upd fv15_1 dn (nI j1))).2.1, (R (upd (upd fkk_1 (lnA L j1) ((fkk_1 (lnA L j1)) ||| (fkk_1 (lnB L j1)))) (lnB L j1) ((fkk_1 (lnA L j1)) ||| (fkk_1 (lnB L j1)))) (upd fv15_1 dn (nI j1))).2.2)))) else (L1_X3_goOn lc L dn R m_ (j1 + 1) fkk_1 fv15_1))
def F_X3_goOn (al : Int32) (pe : Nat) (lc : Nat) (kn : Nat → Int32) (gr : Nat → Int32) (L : Nat → Int32) (dn : Nat) (ca : Nat) (R : GOF) : Int32 × (Nat → Int32) × (Nat → Int32) := if F_X3_canEnd al pe kn (nI (ca - dn)) = 0 then (((0 : Int32), kn, gr)) else (if nI ca ≤ nI dn then (((1 : Int32), kn, gr)) else (L1_X3_goOn lc L dn R (lc + 1) 0 kn gr))
set_option maxHeartbeats 4000000 in
set_option maxRecDepth 100000 in
theorem K_X3_goOn (l : Launch) (g : GG) (g3 : Nat) (al : Int32) (kk : Nat) (v : Nat) (v3 : Nat) (v4 : Nat) (v5 : Nat) (v6 : Nat) (v7 : Nat) (v8 : Nat) (v9 : Nat) (v10 : Nat) (v11 : Nat) (v12 : Nat) (v13 : Nat) (v15 : Nat) (pe : Nat) (lc : Nat) (de : Int32) (gl : Int32) (kn : Nat → Int32) (gr : Nat → Int32) (L : Nat → Int32) (dn : Nat) (ca : Nat) (R : GOF) (dd : Nat) (hdd : 5 ≤ dd) (hlc : lc ≤ 12) (hpe : pe ≤ 5) (hE : endsIn L lc pe) (hdc : dn ≤ ca) (hca : ca ≤ 7) (hrec : dn < ca → ∀ (K G : Nat → Int32), MetI l g yX3_goOn cX3_goOn 8 (some .boolean) dd 0 0 [.ref g3, .int (nI (dn + 1)), .int (nI ca)] [(g3, .inr (3, [.ref v, .int al, .ref kk])), (kk, .inl (g.2.1 1, 5, .inl K)), (v, .inr (10, [.int (nI pe), .int (nI lc), .int de, .ref v3, .ref v4, .ref v5, .ref v6, .ref v7, .ref v8, .ref v9, .ref v10, .ref v11, .ref v12, .ref v13, .int gl, .ref v15])), (v9, .inl (g.2.1 1, 72, .inl L)), (v15, .inl (g.2.1 1, 7, .inl G))] (fun r u => r = (R K G).1 ∧ u = [(g3, .inr (3, [.ref v, .int al, .ref kk])), (kk, .inl (g.2.1 1, 5, .inl ((R K G).2.1))), (v, .inr (10, [.int (nI pe), .int (nI lc), .int de, .ref v3, .ref v4, .ref v5, .ref v6, .ref v7, .ref v8, .ref v9, .ref v10, .ref v11, .ref v12, .ref v13, .int gl, .ref v15])), (v9, .inl (g.2.1 1, 72, .inl L)), (v15, .inl (g.2.1 1, 7, .inl ((R K G).2.2)))])) : MetI l g yX3_goOn cX3_goOn 8 (some .boolean) (dd + 1) 0 0 [.ref g3, .int (nI dn), .int (nI ca)] [(g3, .inr (3, [.ref v, .int al, .ref kk])), (kk, .inl (g.2.1 1, 5, .inl kn)), (v, .inr (10, [.int (nI pe), .int (nI lc), .int de, .ref v3, .ref v4, .ref v5, .ref v6, .ref v7, .ref v8, .ref v9, .ref v10, .ref v11, .ref v12, .ref v13, .int gl, .ref v15])), (v9, .inl (g.2.1 1, 72, .inl L)), (v15, .inl (g.2.1 1, 7, .inl gr))] (fun r u => r = (F_X3_goOn al pe lc kn gr L dn ca R).1 ∧ u = [(g3, .inr (3, [.ref v, .int al, .ref kk])), (kk, .inl (g.2.1 1, 5, .inl ((F_X3_goOn al pe lc kn gr L dn ca R).2.1))), (v, .inr (10, [.int (nI pe), .int (nI lc), .int de, .ref v3, .ref v4, .ref v5, .ref v6, .ref v7, .ref v8, .ref v9, .ref v10, .ref v11, .ref v12, .ref v13, .int gl, .ref v15])), (v9, .inl (g.2.1 1, 72, .inl L)), (v15, .inl (g.2.1 1, 7, .inl ((F_X3_goOn al pe lc kn gr L dn ca R).2.2)))]) := by
  refine MetI.of (own := RX3) rfl (by decide) (Nat.le_of_ble_eq_true rfl) ?_
  intro p e s m below meth c A ls args Q hQ X hr hin hW hl
  have hx := X.1
  have hb := X.2.1
  have hl : lv_has ls 8 [(0, .ref g3), (1, .int (nI dn)), (2, .int (nI ca))] := hl
  refine lv_aload_n (pc := 0) hx hb dX3_goOn_0 rfl (lv_at hl 0 rfl) ?_
  refine lv_iload_n (pc := 1) hx hb dX3_goOn_1 rfl (lv_at hl 2 rfl) ?_
  refine lv_iload_n (pc := 2) hx hb dX3_goOn_2 rfl (lv_at hl 1 rfl) ?_
  refine lv_isub (pc := 3) hx hb dX3_goOn_3 ?_
  refine lv_topi (fun v1 ev1 => ?_)
  obtain rfl : v1 = nI (ca - dn) := ev1.trans (pk_sub (a := ca) (b := dn) (by omega))
  refine c_Vi (pc := 4) (As := [.int (nI (ca - dn))]) (rest := []) (wr := [(v9, .inl (g.2.1 1, 72, .inl L)), (v15, .inl (g.2.1 1, 7, .inl gr))]) X hW 0 ciX3 rfl (K_X3_canEnd l g g3 al kk v v3 v4 v5 v6 v7 v8 v9 v10 v11 v12 v13 v15 pe (nI lc) de gl kn (nI (ca - dn)) hpe) vX3_54 [0, 1, 2] [3, 4] rfl rfl rfl rfl rfl rfl hl.1 rfl (Nat.le_of_ble_eq_true rfl) ⟨by show _ ≤ dd + 1; omega, by show _ ≤ 40 * (dd + 1); omega⟩ ⟨Nat.le_of_ble_eq_true rfl, Nat.le_of_ble_eq_true rfl⟩ dX3_goOn_4 (fun r2 u9 H locs hq hW => ?_)
  obtain ⟨rfl, rfl⟩ := hq
  have hW : WD g A s _ _ [(v9, .inl (g.2.1 1, 72, .inl L)), (v15, .inl (g.2.1 1, 7, .inl gr)), (g3, .inr (3, [.ref v, .int al, .ref kk])), (kk, .inl (g.2.1 1, 5, .inl kn)), (v, .inr (10, [.int (nI pe), .int (nI lc), .int de, .ref v3, .ref v4, .ref v5, .ref v6, .ref v7, .ref v8, .ref v9, .ref v10, .ref v11, .ref v12, .ref v13, .int gl, .ref v15]))] := hW
  refine lv_if_ne (tgt := 12) (pc := 7) hx hb dX3_goOn_7 rfl (fun c3 => ?_) (fun c3 => ?_)
  · refine lv_iload_n (pc := 12) hx hb dX3_goOn_12 rfl (lv_at hl 1 rfl) ?_
    refine lv_iload_n (pc := 13) hx hb dX3_goOn_13 rfl (lv_at hl 2 rfl) ?_
    refine lv_icmp_ge (tgt := 23) (pc := 14) hx hb dX3_goOn_14 rfl (fun c5 => ?_) (fun c5 => ?_)
    · have h6 : ca ≤ dn := (nI_leI (a := ca) (b := dn) (by omega) (by omega)).mp c5
      refine lv_iconst (v := 1) (pc := 23) hx hb dX3_goOn_23 (by decide) ?_
      have hF : F_X3_goOn al pe lc kn gr L dn ca R = ((1 : Int32), kn, gr) := show F_X3_goOn al pe lc kn gr L dn ca R = ((1 : Int32), kn, gr) from by rw [F_X3_goOn, if_neg c3, if_pos c5]
      exact e_z (u := [(g3, .inr (3, [.ref v, .int al, .ref kk])), (kk, .inl (g.2.1 1, 5, .inl kn)), (v, .inr (10, [.int (nI pe), .int (nI lc), .int de, .ref v3, .ref v4, .ref v5, .ref v6, .ref v7, .ref v8, .ref v9, .ref v10, .ref v11, .ref v12, .ref v13, .int gl, .ref v15])), (v9, .inl (g.2.1 1, 72, .inl L)), (v15, .inl (g.2.1 1, 7, .inl gr))]) X hQ hr (hW) rfl [2, 3, 4, 0, 1] rfl rfl (⟨(congrArg Prod.fst hF).symm, by rw [hF]⟩) ⟨Nat.le_of_ble_eq_true rfl, Nat.le_of_ble_eq_true rfl⟩ dX3_goOn_24
    · have h7 : ¬ (ca ≤ dn) := fun q => c5 ((nI_leI (a := ca) (b := dn) (by omega) (by omega)).mpr q)
      refine lv_iload_n (pc := 17) hx hb dX3_goOn_17 rfl (lv_at hl 1 rfl) ?_
      refine lv_bipush (v := 7) (pc := 18) hx hb dX3_goOn_18 (by decide) ?_
      refine lv_icmp_lt (tgt := 25) (pc := 20) hx hb dX3_goOn_20 rfl (fun c8 => ?_) (fun c8 => absurd ((nI_ltI (a := dn) (b := 7) (by omega) (by omega)).mpr (by omega)) c8)
      refine lv_iconst (v := 0) (pc := 25) hx hb dX3_goOn_25 (by decide) ?_
      refine lv_istore_n (lv' := [(3, .int 0), (0, .ref g3), (1, .int (nI dn)), (2, .int (nI ca))]) (pc := 26) hx hb dX3_goOn_26 rfl hl (by decide) rfl (fun ls hl => ?_)
      have loop1 : ∀ (fu1 : Nat) (j1 : Nat) (fkk_1 : Nat → Int32) (fv15_1 : Nat → Int32), (lc < fu1 + j1) → (j1 ≤ lc) → (L1_X3_goOn lc L dn R fu1 j1 fkk_1 fv15_1 = F_X3_goOn al pe lc kn gr L dn ca R) → ∀ (H : Heap) (locs : List Loc) (ls : Array Slot), WD g A s H locs [(v9, .inl (g.2.1 1, 72, .inl L)), (v15, .inl (g.2.1 1, 7, .inl fv15_1)), (g3, .inr (3, [.ref v, .int al, .ref kk])), (kk, .inl (g.2.1 1, 5, .inl fkk_1)), (v, .inr (10, [.int (nI pe), .int (nI lc), .int de, .ref v3, .ref v4, .ref v5, .ref v6, .ref v7, .ref v8, .ref v9, .ref v10, .ref v11, .ref v12, .ref v13, .int gl, .ref v15]))] → lv_has ls 8 [(3, .int (nI j1)), (0, .ref g3), (1, .int (nI dn)), (2, .int (nI ca))] → W p l e (RM (dd + 1) 0 0) s m args below meth c H locs 0 0 Q (F0 m 27 ls []) := by
        intro fu1
        induction fu1 with
        | zero =>
          intro j1 fkk_1 fv15_1 hm1 hj1 hst1
          exact absurd hm1 (by omega)
        | succ fu1 ih1 =>
          intro j1 fkk_1 fv15_1 hm1 hj1 hst1 H locs ls hW hl
          refine lv_iload_n (pc := 27) hx hb dX3_goOn_27 rfl (lv_at hl 0 rfl) ?_
          refine lv_aload_n (pc := 28) hx hb dX3_goOn_28 rfl (lv_at hl 1 rfl) ?_
          refine r_get X hW 2 ciX3 0 rfl (by decide) m_196 rfl rfl dX3_goOn_29 ?_
          refine r_getN X hW 4 ciX10 1 rfl (by decide) m_283 rfl rfl dX3_goOn_32 ?_
          refine lv_icmp_ge (tgt := 168) (pc := 35) hx hb dX3_goOn_35 rfl (fun c9 => ?_) (fun c9 => ?_)
          · have h10 : lc ≤ j1 := (nI_leI (a := lc) (b := j1) (by omega) (by omega)).mp c9
            refine lv_iconst (v := 0) (pc := 168) hx hb dX3_goOn_168 (by decide) ?_
            have hF : F_X3_goOn al pe lc kn gr L dn ca R = ((0 : Int32), fkk_1, fv15_1) := hst1.symm.trans (show L1_X3_goOn lc L dn R (fu1 + 1) j1 fkk_1 fv15_1 = ((0 : Int32), fkk_1, fv15_1) from by rw [L1_X3_goOn, if_pos c9])
            exact e_z (u := [(g3, .inr (3, [.ref v, .int al, .ref kk])), (kk, .inl (g.2.1 1, 5, .inl fkk_1)), (v, .inr (10, [.int (nI pe), .int (nI lc), .int de, .ref v3, .ref v4, .ref v5, .ref v6, .ref v7, .ref v8, .ref v9, .ref v10, .ref v11, .ref v12, .ref v13, .int gl, .ref v15])), (v9, .inl (g.2.1 1, 72, .inl L)), (v15, .inl (g.2.1 1, 7, .inl fv15_1))]) X hQ hr (hW) rfl [2, 3, 4, 0, 1] rfl rfl (⟨(congrArg Prod.fst hF).symm, by rw [hF]⟩) ⟨Nat.le_of_ble_eq_true rfl, Nat.le_of_ble_eq_true rfl⟩ dX3_goOn_169
          · have h11 : ¬ (lc ≤ j1) := fun q => c9 ((nI_leI (a := lc) (b := j1) (by omega) (by omega)).mpr q)
            refine lv_aload_n (pc := 38) hx hb dX3_goOn_38 rfl (lv_at hl 1 rfl) ?_
            refine r_get X hW 2 ciX3 0 rfl (by decide) m_196 rfl rfl dX3_goOn_39 ?_
            refine lv_iload_n (pc := 42) hx hb dX3_goOn_42 rfl (lv_at hl 0 rfl) ?_
            refine c_Vi (pc := 43) (As := [.int (nI j1)]) (rest := []) (wr := [(v15, .inl (g.2.1 1, 7, .inl fv15_1)), (g3, .inr (3, [.ref v, .int al, .ref kk])), (kk, .inl (g.2.1 1, 5, .inl fkk_1))]) X hW 4 ciX10 rfl (C_X10_lineAG l g v v3 v4 v5 v6 v7 v8 v9 v10 v11 v12 v13 v15 (nI pe) (nI lc) de gl L j1 (by omega)) vX3_61 [4, 0] [1, 2, 3] rfl rfl rfl rfl rfl rfl hl.1 rfl (Nat.le_of_ble_eq_true rfl) ⟨by show _ ≤ dd + 1; omega, by show _ ≤ 40 * (dd + 1); omega⟩ ⟨Nat.le_of_ble_eq_true rfl, Nat.le_of_ble_eq_true rfl⟩ dX3_goOn_43 (fun r12 u9 H locs hq hW => ?_)
            obtain ⟨rfl, rfl⟩ := hq
            have hW : WD g A s _ _ [(v15, .inl (g.2.1 1, 7, .inl fv15_1)), (g3, .inr (3, [.ref v, .int al, .ref kk])), (kk, .inl (g.2.1 1, 5, .inl fkk_1)), (v, .inr (10, [.int (nI pe), .int (nI lc), .int de, .ref v3, .ref v4, .ref v5, .ref v6, .ref v7, .ref v8, .ref v9, .ref v10, .ref v11, .ref v12, .ref v13, .int gl, .ref v15])), (v9, .inl (g.2.1 1, 72, .inl L))] := hW
            obtain ⟨ea0, eb0, la0, lb0⟩ := ends_at hE (show pe ≤ 7 by omega) (show j1 < lc by omega)
            rw [ea0]
            refine lv_istore (lv' := [(4, .int (nI (lnA L j1))), (3, .int (nI j1)), (0, .ref g3), (1, .int (nI dn)), (2, .int (nI ca))]) (pc := 46) hx hb dX3_goOn_46 hl (by decide) rfl (fun ls hl => ?_)
            refine lv_aload_n (pc := 48) hx hb dX3_goOn_48 rfl (lv_at hl 2 rfl) ?_
            refine r_get X hW 1 ciX3 0 rfl (by decide) m_196 rfl rfl dX3_goOn_49 ?_
            refine lv_iload_n (pc := 52) hx hb dX3_goOn_52 rfl (lv_at hl 1 rfl) ?_
            refine c_Vi (pc := 53) (As := [.int (nI j1)]) (rest := []) (wr := [(v15, .inl (g.2.1 1, 7, .inl fv15_1)), (g3, .inr (3, [.ref v, .int al, .ref kk])), (kk, .inl (g.2.1 1, 5, .inl fkk_1))]) X hW 3 ciX10 rfl (C_X10_lineBG l g v v3 v4 v5 v6 v7 v8 v9 v10 v11 v12 v13 v15 (nI pe) (nI lc) de gl L j1 (by omega)) vX3_64 [3, 4] [0, 1, 2] rfl rfl rfl rfl rfl rfl hl.1 rfl (Nat.le_of_ble_eq_true rfl) ⟨by show _ ≤ dd + 1; omega, by show _ ≤ 40 * (dd + 1); omega⟩ ⟨Nat.le_of_ble_eq_true rfl, Nat.le_of_ble_eq_true rfl⟩ dX3_goOn_53 (fun r13 u9 H locs hq hW => ?_)
            obtain ⟨rfl, rfl⟩ := hq
            have hW : WD g A s _ _ [(v15, .inl (g.2.1 1, 7, .inl fv15_1)), (g3, .inr (3, [.ref v, .int al, .ref kk])), (kk, .inl (g.2.1 1, 5, .inl fkk_1)), (v, .inr (10, [.int (nI pe), .int (nI lc), .int de, .ref v3, .ref v4, .ref v5, .ref v6, .ref v7, .ref v8, .ref v9, .ref v10, .ref v11, .ref v12, .ref v13, .int gl, .ref v15])), (v9, .inl (g.2.1 1, 72, .inl L))] := hW
            rw [eb0]
            refine lv_istore (lv' := [(5, .int (nI (lnB L j1))), (4, .int (nI (lnA L j1))), (3, .int (nI j1)), (0, .ref g3), (1, .int (nI dn)), (2, .int (nI ca))]) (pc := 56) hx hb dX3_goOn_56 hl (by decide) rfl (fun ls hl => ?_)
            refine lv_aload_n (pc := 58) hx hb dX3_goOn_58 rfl (lv_at hl 3 rfl) ?_
            refine r_get X hW 1 ciX3 2 rfl (by decide) m_198 rfl rfl dX3_goOn_59 ?_
            refine lv_iload (pc := 62) hx hb dX3_goOn_62 (lv_at hl 1 rfl) ?_
            refine r_iald X hW 2 rfl (vp_in_nI (by omega) (by decide)) dX3_goOn_64 ?_
            refine lv_topi (fun v14 ev14 => ?_)
            obtain rfl : v14 = fkk_1 (lnA L j1) := ev14.trans (by rw [nI_clamp (by omega)])
            refine lv_istore (lv' := [(6, .int (fkk_1 (lnA L j1))), (5, .int (nI (lnB L j1))), (4, .int (nI (lnA L j1))), (3, .int (nI j1)), (0, .ref g3), (1, .int (nI dn)), (2, .int (nI ca))]) (pc := 65) hx hb dX3_goOn_65 hl (by decide) rfl (fun ls hl => ?_)
            refine lv_aload_n (pc := 67) hx hb dX3_goOn_67 rfl (lv_at hl 4 rfl) ?_
            refine r_get X hW 1 ciX3 2 rfl (by decide) m_198 rfl rfl dX3_goOn_68 ?_
            refine lv_iload (pc := 71) hx hb dX3_goOn_71 (lv_at hl 1 rfl) ?_
            refine r_iald X hW 2 rfl (vp_in_nI (by omega) (by decide)) dX3_goOn_73 ?_
            refine lv_topi (fun v15 ev15 => ?_)
            obtain rfl : v15 = fkk_1 (lnB L j1) := ev15.trans (by rw [nI_clamp (by omega)])
            refine lv_istore (lv' := [(7, .int (fkk_1 (lnB L j1))), (6, .int (fkk_1 (lnA L j1))), (5, .int (nI (lnB L j1))), (4, .int (nI (lnA L j1))), (3, .int (nI j1)), (0, .ref g3), (1, .int (nI dn)), (2, .int (nI ca))]) (pc := 74) hx hb dX3_goOn_74 hl (by decide) rfl (fun ls hl => ?_)
            refine lv_aload_n (pc := 76) hx hb dX3_goOn_76 rfl (lv_at hl 5 rfl) ?_
            refine r_get X hW 1 ciX3 0 rfl (by decide) m_196 rfl rfl dX3_goOn_77 ?_
            refine lv_iload_n (pc := 80) hx hb dX3_goOn_80 rfl (lv_at hl 4 rfl) ?_
            refine c_Vi (pc := 81) (As := [.int (nI j1)]) (rest := []) (wr := [(v15, .inl (g.2.1 1, 7, .inl fv15_1)), (g3, .inr (3, [.ref v, .int al, .ref kk])), (kk, .inl (g.2.1 1, 5, .inl fkk_1))]) X hW 3 ciX10 rfl (C_X10_isOneWayG l g v v3 v4 v5 v6 v7 v8 v9 v10 v11 v12 v13 v15 (nI pe) (nI lc) de gl L j1 (by omega)) vX3_67 [3, 4] [0, 1, 2] rfl rfl rfl rfl rfl rfl hl.1 rfl (Nat.le_of_ble_eq_true rfl) ⟨by show _ ≤ dd + 1; omega, by show _ ≤ 40 * (dd + 1); omega⟩ ⟨Nat.le_of_ble_eq_true rfl, Nat.le_of_ble_eq_true rfl⟩ dX3_goOn_81 (fun r16 u9 H locs hq hW => ?_)
            obtain ⟨rfl, rfl⟩ := hq
            have hW : WD g A s _ _ [(v15, .inl (g.2.1 1, 7, .inl fv15_1)), (g3, .inr (3, [.ref v, .int al, .ref kk])), (kk, .inl (g.2.1 1, 5, .inl fkk_1)), (v, .inr (10, [.int (nI pe), .int (nI lc), .int de, .ref v3, .ref v4, .ref v5, .ref v6, .ref v7, .ref v8, .ref v9, .ref v10, .ref v11, .ref v12, .ref v13, .int gl, .ref v15])), (v9, .inl (g.2.1 1, 72, .inl L))] := hW
            refine lv_if_ne (tgt := 162) (pc := 84) hx hb dX3_goOn_84 rfl (fun c17 => ?_) (fun c17 => ?_)
            · refine lv_iinc (v := nI (j1 + 1)) (lv' := [(3, .int (nI (j1 + 1))), (7, .int (fkk_1 (lnB L j1))), (6, .int (fkk_1 (lnA L j1))), (5, .int (nI (lnB L j1))), (4, .int (nI (lnA L j1))), (0, .ref g3), (1, .int (nI dn)), (2, .int (nI ca))]) (pc := 162) hx hb dX3_goOn_162 hl (k := 4) rfl (nI_add j1 1) (by decide) rfl (fun ls hl => ?_)
              refine lv_goto (tgt := 27) (pc := 165) hx hb dX3_goOn_165 rfl ?_
              have hW : WD g A s _ _ [(v9, .inl (g.2.1 1, 72, .inl L)), (v15, .inl (g.2.1 1, 7, .inl fv15_1)), (g3, .inr (3, [.ref v, .int al, .ref kk])), (kk, .inl (g.2.1 1, 5, .inl fkk_1)), (v, .inr (10, [.int (nI pe), .int (nI lc), .int de, .ref v3, .ref v4, .ref v5, .ref v6, .ref v7, .ref v8, .ref v9, .ref v10, .ref v11, .ref v12, .ref v13, .int gl, .ref v15]))] := hW.pick [4, 0, 1, 2, 3] rfl rfl
              exact ih1 (j1 + 1) fkk_1 fv15_1 (by omega) (by omega) ((show L1_X3_goOn lc L dn R (fu1 + 1) j1 fkk_1 fv15_1 = L1_X3_goOn lc L dn R fu1 (j1 + 1) fkk_1 fv15_1 from by rw [L1_X3_goOn, if_neg c9, if_neg c17]).symm.trans hst1) _ _ _ hW (lv_sub hl [0, 5, 6, 7] rfl)
            · refine lv_iload (pc := 87) hx hb dX3_goOn_87 (lv_at hl 1 rfl) ?_
              refine lv_iload (pc := 89) hx hb dX3_goOn_89 (lv_at hl 0 rfl) ?_
              refine lv_icmp_ne (tgt := 97) (pc := 91) hx hb dX3_goOn_91 rfl (fun c20 => ?_) (fun c20 => ?_)
              · refine lv_aload_n (pc := 97) hx hb dX3_goOn_97 rfl (lv_at hl 5 rfl) ?_
                refine r_get X hW 1 ciX3 2 rfl (by decide) m_198 rfl rfl dX3_goOn_98 ?_
                refine lv_iload (pc := 101) hx hb dX3_goOn_101 (lv_at hl 3 rfl) ?_
                refine lv_iload (pc := 103) hx hb dX3_goOn_103 (lv_at hl 1 rfl) ?_
                refine lv_iload (pc := 105) hx hb dX3_goOn_105 (lv_at hl 0 rfl) ?_
                refine lv_ior (pc := 107) hx hb dX3_goOn_107 ?_
                refine r_iast (ws' := [(v15, .inl (g.2.1 1, 7, .inl fv15_1)), (g3, .inr (3, [.ref v, .int al, .ref kk])), (kk, .inl (g.2.1 1, 5, .inl (upd fkk_1 (lnA L j1) ((fkk_1 (lnA L j1)) ||| (fkk_1 (lnB L j1)))))), (v, .inr (10, [.int (nI pe), .int (nI lc), .int de, .ref v3, .ref v4, .ref v5, .ref v6, .ref v7, .ref v8, .ref v9, .ref v10, .ref v11, .ref v12, .ref v13, .int gl, .ref v15])), (v9, .inl (g.2.1 1, 72, .inl L))]) X hW 2 rfl (vp_in_nI (by omega) (by decide)) (f' := (upd fkk_1 (lnA L j1) ((fkk_1 (lnA L j1)) ||| (fkk_1 (lnB L j1))))) (by rw [nI_clamp (by omega)]) rfl dX3_goOn_108 (fun H locs hW => ?_)
                refine lv_aload_n (pc := 109) hx hb dX3_goOn_109 rfl (lv_at hl 5 rfl) ?_
                refine r_get X hW 1 ciX3 2 rfl (by decide) m_198 rfl rfl dX3_goOn_110 ?_
                refine lv_iload (pc := 113) hx hb dX3_goOn_113 (lv_at hl 2 rfl) ?_
                refine lv_iload (pc := 115) hx hb dX3_goOn_115 (lv_at hl 1 rfl) ?_
                refine lv_iload (pc := 117) hx hb dX3_goOn_117 (lv_at hl 0 rfl) ?_
                refine lv_ior (pc := 119) hx hb dX3_goOn_119 ?_
                refine r_iast (ws' := [(v15, .inl (g.2.1 1, 7, .inl fv15_1)), (g3, .inr (3, [.ref v, .int al, .ref kk])), (kk, .inl (g.2.1 1, 5, .inl (upd (upd fkk_1 (lnA L j1) ((fkk_1 (lnA L j1)) ||| (fkk_1 (lnB L j1)))) (lnB L j1) ((fkk_1 (lnA L j1)) ||| (fkk_1 (lnB L j1)))))), (v, .inr (10, [.int (nI pe), .int (nI lc), .int de, .ref v3, .ref v4, .ref v5, .ref v6, .ref v7, .ref v8, .ref v9, .ref v10, .ref v11, .ref v12, .ref v13, .int gl, .ref v15])), (v9, .inl (g.2.1 1, 72, .inl L))]) X hW 2 rfl (vp_in_nI (by omega) (by decide)) (f' := (upd (upd fkk_1 (lnA L j1) ((fkk_1 (lnA L j1)) ||| (fkk_1 (lnB L j1)))) (lnB L j1) ((fkk_1 (lnA L j1)) ||| (fkk_1 (lnB L j1))))) (by rw [nI_clamp (by omega)]) rfl dX3_goOn_120 (fun H locs hW => ?_)
                refine lv_aload_n (pc := 121) hx hb dX3_goOn_121 rfl (lv_at hl 5 rfl) ?_
                refine r_get X hW 1 ciX3 0 rfl (by decide) m_196 rfl rfl dX3_goOn_122 ?_
                refine r_getN X hW 3 ciX10 15 rfl (by decide) m_318 rfl rfl dX3_goOn_125 ?_
                refine lv_iload_n (pc := 128) hx hb dX3_goOn_128 rfl (lv_at hl 6 rfl) ?_
                refine lv_iload_n (pc := 129) hx hb dX3_goOn_129 rfl (lv_at hl 4 rfl) ?_
                refine r_iast (ws' := [(v15, .inl (g.2.1 1, 7, .inl (upd fv15_1 dn (nI j1)))), (g3, .inr (3, [.ref v, .int al, .ref kk])), (kk, .inl (g.2.1 1, 5, .inl (upd (upd fkk_1 (lnA L j1) ((fkk_1 (lnA L j1)) ||| (fkk_1 (lnB L j1)))) (lnB L j1) ((fkk_1 (lnA L j1)) ||| (fkk_1 (lnB L j1)))))), (v, .inr (10, [.int (nI pe), .int (nI lc), .int de, .ref v3, .ref v4, .ref v5, .ref v6, .ref v7, .ref v8, .ref v9, .ref v10, .ref v11, .ref v12, .ref v13, .int gl, .ref v15])), (v9, .inl (g.2.1 1, 72, .inl L))]) X hW 0 rfl (vp_in_nI (by omega) (by decide)) (f' := (upd fv15_1 dn (nI j1))) (by rw [nI_clamp (by omega)]) rfl dX3_goOn_130 (fun H locs hW => ?_)
                refine lv_aload_n (pc := 131) hx hb dX3_goOn_131 rfl (lv_at hl 5 rfl) ?_
                refine lv_iload_n (pc := 132) hx hb dX3_goOn_132 rfl (lv_at hl 6 rfl) ?_
                refine lv_iconst (v := 1) (pc := 133) hx hb dX3_goOn_133 (by decide) ?_
                refine lv_iadd (pc := 134) hx hb dX3_goOn_134 ?_
                refine lv_topi (fun v22 ev22 => ?_)
                obtain rfl : v22 = nI (dn + 1) := ev22.trans (nI_add dn 1)
                refine lv_iload_n (pc := 135) hx hb dX3_goOn_135 rfl (lv_at hl 7 rfl) ?_
                refine c_Vi (pc := 136) (As := [.int (nI (dn + 1)), .int (nI ca)]) (rest := []) (wr := []) X hW 1 ciX3 rfl (hrec (by omega) (upd (upd fkk_1 (lnA L j1) ((fkk_1 (lnA L j1)) ||| (fkk_1 (lnB L j1)))) (lnB L j1) ((fkk_1 (lnA L j1)) ||| (fkk_1 (lnB L j1)))) (upd fv15_1 dn (nI j1))) vX3_50 [1, 2, 3, 4, 0] [] rfl rfl rfl rfl rfl rfl hl.1 rfl (Nat.le_of_ble_eq_true rfl) ⟨by show _ ≤ dd + 1; omega, by show _ ≤ 40 * (dd + 1); omega⟩ ⟨Nat.le_of_ble_eq_true rfl, Nat.le_of_ble_eq_true rfl⟩ dX3_goOn_136 (fun r23 u9 H locs hq hW => ?_)
                obtain ⟨rfl, rfl⟩ := hq
                have hW : WD g A s _ _ [(g3, .inr (3, [.ref v, .int al, .ref kk])), (kk, .inl (g.2.1 1, 5, .inl ((R (upd (upd fkk_1 (lnA L j1) ((fkk_1 (lnA L j1)) ||| (fkk_1 (lnB L j1)))) (lnB L j1) ((fkk_1 (lnA L j1)) ||| (fkk_1 (lnB L j1)))) (upd fv15_1 dn (nI j1))).2.1))), (v, .inr (10, [.int (nI pe), .int (nI lc), .int de, .ref v3, .ref v4, .ref v5, .ref v6, .ref v7, .ref v8, .ref v9, .ref v10, .ref v11, .ref v12, .ref v13, .int gl, .ref v15])), (v9, .inl (g.2.1 1, 72, .inl L)), (v15, .inl (g.2.1 1, 7, .inl ((R (upd (upd fkk_1 (lnA L j1) ((fkk_1 (lnA L j1)) ||| (fkk_1 (lnB L j1)))) (lnB L j1) ((fkk_1 (lnA L j1)) ||| (fkk_1 (lnB L j1)))) (upd fv15_1 dn (nI j1))).2.2)))] := hW
                refine lv_if_eq (tgt := 144) (pc := 139) hx hb dX3_goOn_139 rfl (fun c24 => ?_) (fun c24 => ?_)
                · refine lv_aload_n (pc := 144) hx hb dX3_goOn_144 rfl (lv_at hl 5 rfl) ?_
                  refine r_get X hW 0 ciX3 2 rfl (by decide) m_198 rfl rfl dX3_goOn_145 ?_
                  refine lv_iload (pc := 148) hx hb dX3_goOn_148 (lv_at hl 3 rfl) ?_
                  refine lv_iload (pc := 150) hx hb dX3_goOn_150 (lv_at hl 1 rfl) ?_
                  refine r_iast (ws' := [(g3, .inr (3, [.ref v, .int al, .ref kk])), (kk, .inl (g.2.1 1, 5, .inl (upd ((R (upd (upd fkk_1 (lnA L j1) ((fkk_1 (lnA L j1)) ||| (fkk_1 (lnB L j1)))) (lnB L j1) ((fkk_1 (lnA L j1)) ||| (fkk_1 (lnB L j1)))) (upd fv15_1 dn (nI j1))).2.1) (lnA L j1) (fkk_1 (lnA L j1))))), (v, .inr (10, [.int (nI pe), .int (nI lc), .int de, .ref v3, .ref v4, .ref v5, .ref v6, .ref v7, .ref v8, .ref v9, .ref v10, .ref v11, .ref v12, .ref v13, .int gl, .ref v15])), (v9, .inl (g.2.1 1, 72, .inl L)), (v15, .inl (g.2.1 1, 7, .inl ((R (upd (upd fkk_1 (lnA L j1) ((fkk_1 (lnA L j1)) ||| (fkk_1 (lnB L j1)))) (lnB L j1) ((fkk_1 (lnA L j1)) ||| (fkk_1 (lnB L j1)))) (upd fv15_1 dn (nI j1))).2.2)))]) X hW 1 rfl (vp_in_nI (by omega) (by decide)) (f' := (upd ((R (upd (upd fkk_1 (lnA L j1) ((fkk_1 (lnA L j1)) ||| (fkk_1 (lnB L j1)))) (lnB L j1) ((fkk_1 (lnA L j1)) ||| (fkk_1 (lnB L j1)))) (upd fv15_1 dn (nI j1))).2.1) (lnA L j1) (fkk_1 (lnA L j1)))) (by rw [nI_clamp (by omega)]) rfl dX3_goOn_152 (fun H locs hW => ?_)
                  refine lv_aload_n (pc := 153) hx hb dX3_goOn_153 rfl (lv_at hl 5 rfl) ?_
                  refine r_get X hW 0 ciX3 2 rfl (by decide) m_198 rfl rfl dX3_goOn_154 ?_
                  refine lv_iload (pc := 157) hx hb dX3_goOn_157 (lv_at hl 2 rfl) ?_
                  refine lv_iload (pc := 159) hx hb dX3_goOn_159 (lv_at hl 0 rfl) ?_
                  refine r_iast (ws' := [(g3, .inr (3, [.ref v, .int al, .ref kk])), (kk, .inl (g.2.1 1, 5, .inl (upd (upd ((R (upd (upd fkk_1 (lnA L j1) ((fkk_1 (lnA L j1)) ||| (fkk_1 (lnB L j1)))) (lnB L j1) ((fkk_1 (lnA L j1)) ||| (fkk_1 (lnB L j1)))) (upd fv15_1 dn (nI j1))).2.1) (lnA L j1) (fkk_1 (lnA L j1))) (lnB L j1) (fkk_1 (lnB L j1))))), (v, .inr (10, [.int (nI pe), .int (nI lc), .int de, .ref v3, .ref v4, .ref v5, .ref v6, .ref v7, .ref v8, .ref v9, .ref v10, .ref v11, .ref v12, .ref v13, .int gl, .ref v15])), (v9, .inl (g.2.1 1, 72, .inl L)), (v15, .inl (g.2.1 1, 7, .inl ((R (upd (upd fkk_1 (lnA L j1) ((fkk_1 (lnA L j1)) ||| (fkk_1 (lnB L j1)))) (lnB L j1) ((fkk_1 (lnA L j1)) ||| (fkk_1 (lnB L j1)))) (upd fv15_1 dn (nI j1))).2.2)))]) X hW 1 rfl (vp_in_nI (by omega) (by decide)) (f' := (upd (upd ((R (upd (upd fkk_1 (lnA L j1) ((fkk_1 (lnA L j1)) ||| (fkk_1 (lnB L j1)))) (lnB L j1) ((fkk_1 (lnA L j1)) ||| (fkk_1 (lnB L j1)))) (upd fv15_1 dn (nI j1))).2.1) (lnA L j1) (fkk_1 (lnA L j1))) (lnB L j1) (fkk_1 (lnB L j1)))) (by rw [nI_clamp (by omega)]) rfl dX3_goOn_161 (fun H locs hW => ?_)
                  refine lv_iinc (v := nI (j1 + 1)) (lv' := [(3, .int (nI (j1 + 1))), (7, .int (fkk_1 (lnB L j1))), (6, .int (fkk_1 (lnA L j1))), (5, .int (nI (lnB L j1))), (4, .int (nI (lnA L j1))), (0, .ref g3), (1, .int (nI dn)), (2, .int (nI ca))]) (pc := 162) hx hb dX3_goOn_162 hl (k := 4) rfl (nI_add j1 1) (by decide) rfl (fun ls hl => ?_)
                  refine lv_goto (tgt := 27) (pc := 165) hx hb dX3_goOn_165 rfl ?_
                  have hW : WD g A s _ _ [(v9, .inl (g.2.1 1, 72, .inl L)), (v15, .inl (g.2.1 1, 7, .inl ((R (upd (upd fkk_1 (lnA L j1) ((fkk_1 (lnA L j1)) ||| (fkk_1 (lnB L j1)))) (lnB L j1) ((fkk_1 (lnA L j1)) ||| (fkk_1 (lnB L j1)))) (upd fv15_1 dn (nI j1))).2.2))), (g3, .inr (3, [.ref v, .int al, .ref kk])), (kk, .inl (g.2.1 1, 5, .inl (upd (upd ((R (upd (upd fkk_1 (lnA L j1) ((fkk_1 (lnA L j1)) ||| (fkk_1 (lnB L j1)))) (lnB L j1) ((fkk_1 (lnA L j1)) ||| (fkk_1 (lnB L j1)))) (upd fv15_1 dn (nI j1))).2.1) (lnA L j1) (fkk_1 (lnA L j1))) (lnB L j1) (fkk_1 (lnB L j1))))), (v, .inr (10, [.int (nI pe), .int (nI lc), .int de, .ref v3, .ref v4, .ref v5, .ref v6, .ref v7, .ref v8, .ref v9, .ref v10, .ref v11, .ref v12, .ref v13, .int gl, .ref v15]))] := hW.pick [3, 4, 0, 1, 2] rfl rfl
                  exact ih1 (j1 + 1) (upd (upd ((R (upd (upd fkk_1 (lnA L j1) ((fkk_1 (lnA L j1)) ||| (fkk_1 (lnB L j1)))) (lnB L j1) ((fkk_1 (lnA L j1)) ||| (fkk_1 (lnB L j1)))) (upd fv15_1 dn (nI j1))).2.1) (lnA L j1) (fkk_1 (lnA L j1))) (lnB L j1) (fkk_1 (lnB L j1))) ((R (upd (upd fkk_1 (lnA L j1) ((fkk_1 (lnA L j1)) ||| (fkk_1 (lnB L j1)))) (lnB L j1) ((fkk_1 (lnA L j1)) ||| (fkk_1 (lnB L j1)))) (upd fv15_1 dn (nI j1))).2.2) (by omega) (by omega) ((show L1_X3_goOn lc L dn R (fu1 + 1) j1 fkk_1 fv15_1 = L1_X3_goOn lc L dn R fu1 (j1 + 1) (upd (upd ((R (upd (upd fkk_1 (lnA L j1) ((fkk_1 (lnA L j1)) ||| (fkk_1 (lnB L j1)))) (lnB L j1) ((fkk_1 (lnA L j1)) ||| (fkk_1 (lnB L j1)))) (upd fv15_1 dn (nI j1))).2.1) (lnA L j1) (fkk_1 (lnA L j1))) (lnB L j1) (fkk_1 (lnB L j1))) ((R (upd (upd fkk_1 (lnA L j1) ((fkk_1 (lnA L j1)) ||| (fkk_1 (lnB L j1)))) (lnB L j1) ((fkk_1 (lnA L j1)) ||| (fkk_1 (lnB L j1)))) (upd fv15_1 dn (nI j1))).2.2) from by rw [L1_X3_goOn, if_neg c9, if_pos c17, if_neg c20, if_pos c24]).symm.trans hst1) _ _ _ hW (lv_sub hl [0, 5, 6, 7] rfl)
                · refine lv_iconst (v := 1) (pc := 142) hx hb dX3_goOn_142 (by decide) ?_
                  have hF : F_X3_goOn al pe lc kn gr L dn ca R = ((1 : Int32), (R (upd (upd fkk_1 (lnA L j1) ((fkk_1 (lnA L j1)) ||| (fkk_1 (lnB L j1)))) (lnB L j1) ((fkk_1 (lnA L j1)) ||| (fkk_1 (lnB L j1)))) (upd fv15_1 dn (nI j1))).2.1, (R (upd (upd fkk_1 (lnA L j1) ((fkk_1 (lnA L j1)) ||| (fkk_1 (lnB L j1)))) (lnB L j1) ((fkk_1 (lnA L j1)) ||| (fkk_1 (lnB L j1)))) (upd fv15_1 dn (nI j1))).2.2) := hst1.symm.trans (show L1_X3_goOn lc L dn R (fu1 + 1) j1 fkk_1 fv15_1 = ((1 : Int32), (R (upd (upd fkk_1 (lnA L j1) ((fkk_1 (lnA L j1)) ||| (fkk_1 (lnB L j1)))) (lnB L j1) ((fkk_1 (lnA L j1)) ||| (fkk_1 (lnB L j1)))) (upd fv15_1 dn (nI j1))).2.1, (R (upd (upd fkk_1 (lnA L j1) ((fkk_1 (lnA L j1)) ||| (fkk_1 (lnB L j1)))) (lnB L j1) ((fkk_1 (lnA L j1)) ||| (fkk_1 (lnB L j1)))) (upd fv15_1 dn (nI j1))).2.2) from by rw [L1_X3_goOn, if_neg c9, if_pos c17, if_neg c20, if_neg c24])
                  exact e_z (u := [(g3, .inr (3, [.ref v, .int al, .ref kk])), (kk, .inl (g.2.1 1, 5, .inl ((R (upd (upd fkk_1 (lnA L j1) ((fkk_1 (lnA L j1)) ||| (fkk_1 (lnB L j1)))) (lnB L j1) ((fkk_1 (lnA L j1)) ||| (fkk_1 (lnB L j1)))) (upd fv15_1 dn (nI j1))).2.1))), (v, .inr (10, [.int (nI pe), .int (nI lc), .int de, .ref v3, .ref v4, .ref v5, .ref v6, .ref v7, .ref v8, .ref v9, .ref v10, .ref v11, .ref v12, .ref v13, .int gl, .ref v15])), (v9, .inl (g.2.1 1, 72, .inl L)), (v15, .inl (g.2.1 1, 7, .inl ((R (upd (upd fkk_1 (lnA L j1) ((fkk_1 (lnA L j1)) ||| (fkk_1 (lnB L j1)))) (lnB L j1) ((fkk_1 (lnA L j1)) ||| (fkk_1 (lnB L j1)))) (upd fv15_1 dn (nI j1))).2.2)))]) X hQ hr (hW) rfl [0, 1, 2, 3, 4] rfl rfl (⟨(congrArg Prod.fst hF).symm, by rw [hF]⟩) ⟨Nat.le_of_ble_eq_true rfl, Nat.le_of_ble_eq_true rfl⟩ dX3_goOn_143
              · refine lv_goto (tgt := 162) (pc := 94) hx hb dX3_goOn_94 rfl ?_
                refine lv_iinc (v := nI (j1 + 1)) (lv' := [(3, .int (nI (j1 + 1))), (7, .int (fkk_1 (lnB L j1))), (6, .int (fkk_1 (lnA L j1))), (5, .int (nI (lnB L j1))), (4, .int (nI (lnA L j1))), (0, .ref g3), (1, .int (nI dn)), (2, .int (nI ca))]) (pc := 162) hx hb dX3_goOn_162 hl (k := 4) rfl (nI_add j1 1) (by decide) rfl (fun ls hl => ?_)
                refine lv_goto (tgt := 27) (pc := 165) hx hb dX3_goOn_165 rfl ?_
                have hW : WD g A s _ _ [(v9, .inl (g.2.1 1, 72, .inl L)), (v15, .inl (g.2.1 1, 7, .inl fv15_1)), (g3, .inr (3, [.ref v, .int al, .ref kk])), (kk, .inl (g.2.1 1, 5, .inl fkk_1)), (v, .inr (10, [.int (nI pe), .int (nI lc), .int de, .ref v3, .ref v4, .ref v5, .ref v6, .ref v7, .ref v8, .ref v9, .ref v10, .ref v11, .ref v12, .ref v13, .int gl, .ref v15]))] := hW.pick [4, 0, 1, 2, 3] rfl rfl
                exact ih1 (j1 + 1) fkk_1 fv15_1 (by omega) (by omega) ((show L1_X3_goOn lc L dn R (fu1 + 1) j1 fkk_1 fv15_1 = L1_X3_goOn lc L dn R fu1 (j1 + 1) fkk_1 fv15_1 from by rw [L1_X3_goOn, if_neg c9, if_pos c17, if_pos c20]).symm.trans hst1) _ _ _ hW (lv_sub hl [0, 5, 6, 7] rfl)
      exact loop1 (lc + 1) 0 kn gr (by omega) (by omega) (show F_X3_goOn al pe lc kn gr L dn ca R = L1_X3_goOn lc L dn R (lc + 1) 0 kn gr from by rw [F_X3_goOn, if_neg c3, if_neg c5]).symm _ _ _ hW (lv_sub hl [0, 1, 2, 3] rfl)
  · refine lv_iconst (v := 0) (pc := 10) hx hb dX3_goOn_10 (by decide) ?_
    have hF : F_X3_goOn al pe lc kn gr L dn ca R = ((0 : Int32), kn, gr) := show F_X3_goOn al pe lc kn gr L dn ca R = ((0 : Int32), kn, gr) from by rw [F_X3_goOn, if_pos c3]
    exact e_z (u := [(g3, .inr (3, [.ref v, .int al, .ref kk])), (kk, .inl (g.2.1 1, 5, .inl kn)), (v, .inr (10, [.int (nI pe), .int (nI lc), .int de, .ref v3, .ref v4, .ref v5, .ref v6, .ref v7, .ref v8, .ref v9, .ref v10, .ref v11, .ref v12, .ref v13, .int gl, .ref v15])), (v9, .inl (g.2.1 1, 72, .inl L)), (v15, .inl (g.2.1 1, 7, .inl gr))]) X hQ hr (hW) rfl [2, 3, 4, 0, 1] rfl rfl (⟨(congrArg Prod.fst hF).symm, by rw [hF]⟩) ⟨Nat.le_of_ble_eq_true rfl, Nat.le_of_ble_eq_true rfl⟩ dX3_goOn_11

/-- goOn with so many calls left -/
def GO (al : Int32) (pe lc : Nat) (L : Nat → Int32) (ca : Nat) : Nat → GOF
  | 0 => fun kn gr => F_X3_goOn al pe lc kn gr L ca ca (fun K G => (0, K, G))
  | f + 1 => fun kn gr => F_X3_goOn al pe lc kn gr L (ca - (f + 1)) ca (GO al pe lc L ca f)
theorem K_go (l : Launch) (g : GG) (g3 : Nat) (al : Int32) (kk : Nat) (v : Nat) (v3 : Nat) (v4 : Nat) (v5 : Nat) (v6 : Nat) (v7 : Nat) (v8 : Nat) (v9 : Nat) (v10 : Nat) (v11 : Nat) (v12 : Nat) (v13 : Nat) (v15 : Nat) (pe : Nat) (lc : Nat) (de : Int32) (gl : Int32) (L : Nat → Int32) (ca : Nat) (hlc : lc ≤ 12) (hpe : pe ≤ 5) (hE : endsIn L lc pe) (hca : ca ≤ 7) : ∀ f : Nat, f ≤ ca → ∀ (K G : Nat → Int32), MetI l g yX3_goOn cX3_goOn 8 (some .boolean) (f + 6) 0 0 [.ref g3, .int (nI (ca - f)), .int (nI ca)] [(g3, .inr (3, [.ref v, .int al, .ref kk])), (kk, .inl (g.2.1 1, 5, .inl K)), (v, .inr (10, [.int (nI pe), .int (nI lc), .int de, .ref v3, .ref v4, .ref v5, .ref v6, .ref v7, .ref v8, .ref v9, .ref v10, .ref v11, .ref v12, .ref v13, .int gl, .ref v15])), (v9, .inl (g.2.1 1, 72, .inl L)), (v15, .inl (g.2.1 1, 7, .inl G))] (fun r u => r = (GO al pe lc L ca f K G).1 ∧ u = [(g3, .inr (3, [.ref v, .int al, .ref kk])), (kk, .inl (g.2.1 1, 5, .inl ((GO al pe lc L ca f K G).2.1))), (v, .inr (10, [.int (nI pe), .int (nI lc), .int de, .ref v3, .ref v4, .ref v5, .ref v6, .ref v7, .ref v8, .ref v9, .ref v10, .ref v11, .ref v12, .ref v13, .int gl, .ref v15])), (v9, .inl (g.2.1 1, 72, .inl L)), (v15, .inl (g.2.1 1, 7, .inl ((GO al pe lc L ca f K G).2.2)))])
  | 0, _, K, G => K_X3_goOn l g g3 al kk v v3 v4 v5 v6 v7 v8 v9 v10 v11 v12 v13 v15 pe lc de gl K G L ca ca (fun K G => (0, K, G)) 5 (by omega) hlc hpe hE (by omega) hca (fun q => absurd q (Nat.lt_irrefl _))
  | f + 1, hf, K, G => K_X3_goOn l g g3 al kk v v3 v4 v5 v6 v7 v8 v9 v10 v11 v12 v13 v15 pe lc de gl K G L (ca - (f + 1)) ca (GO al pe lc L ca f) (f + 6) (by omega) hlc hpe hE (by omega) hca (fun _ K2 G2 => by
      rw [show ca - (f + 1) + 1 = ca - f by omega]
      exact K_go l g g3 al kk v v3 v4 v5 v6 v7 v8 v9 v10 v11 v12 v13 v15 pe lc de gl L ca hlc hpe hE hca f (by omega) K2 G2)
theorem K_go0 (l : Launch) (g : GG) (g3 : Nat) (al : Int32) (kk : Nat) (v : Nat) (v3 : Nat) (v4 : Nat) (v5 : Nat) (v6 : Nat) (v7 : Nat) (v8 : Nat) (v9 : Nat) (v10 : Nat) (v11 : Nat) (v12 : Nat) (v13 : Nat) (v15 : Nat) (pe : Nat) (lc : Nat) (de : Int32) (gl : Int32) (L : Nat → Int32) (ca : Nat) (hlc : lc ≤ 12) (hpe : pe ≤ 5) (hE : endsIn L lc pe) (hca : ca ≤ 7) (K G : Nat → Int32) : MetI l g yX3_goOn cX3_goOn 8 (some .boolean) 13 0 0 [.ref g3, .int 0, .int (nI ca)] [(g3, .inr (3, [.ref v, .int al, .ref kk])), (kk, .inl (g.2.1 1, 5, .inl K)), (v, .inr (10, [.int (nI pe), .int (nI lc), .int de, .ref v3, .ref v4, .ref v5, .ref v6, .ref v7, .ref v8, .ref v9, .ref v10, .ref v11, .ref v12, .ref v13, .int gl, .ref v15])), (v9, .inl (g.2.1 1, 72, .inl L)), (v15, .inl (g.2.1 1, 7, .inl G))] (fun r u => r = (GO al pe lc L ca ca K G).1 ∧ u = [(g3, .inr (3, [.ref v, .int al, .ref kk])), (kk, .inl (g.2.1 1, 5, .inl ((GO al pe lc L ca ca K G).2.1))), (v, .inr (10, [.int (nI pe), .int (nI lc), .int de, .ref v3, .ref v4, .ref v5, .ref v6, .ref v7, .ref v8, .ref v9, .ref v10, .ref v11, .ref v12, .ref v13, .int gl, .ref v15])), (v9, .inl (g.2.1 1, 72, .inl L)), (v15, .inl (g.2.1 1, 7, .inl ((GO al pe lc L ca ca K G).2.2)))]) := by
  have h := MetI.room (K_go l g g3 al kk v v3 v4 v5 v6 v7 v8 v9 v10 v11 v12 v13 v15 pe lc de gl L ca hlc hpe hE hca ca (Nat.le_refl _) K G) (show ca + 6 ≤ 13 by omega)
  rw [Nat.sub_self] at h
  exact h
def lwN (p : Nat) : Nat := if p < 4 then p * (p - 1) / 2 else 2 * p - 4
def upN (p : Nat) : Nat := if p < 4 then p * (p - 1) / 2 else 2 * p - 3
theorem lw_at : ∀ p : Nat, p < 6 → lwE (nI p) = nI (lwN p) := by decide +kernel
theorem up_at : ∀ p : Nat, p < 6 → upE (nI p) = nI (upN p) := by decide +kernel
theorem lu_at : ∀ p : Nat, p < 6 → lwN p ≤ upN p ∧ upN p ≤ 7 := by decide +kernel
def L2_X3_searchs  (j2 : Nat) (fkk_2 : Nat → Int32) : (Nat → Int32) := (upd fkk_2 j2 ((1 : Int32) <<< ((nI j2) &&& 31)))
def L2_X3_search  (i0_ : Nat → Int32) : Nat → (Nat → Int32)
  | 0 => (i0_)
  | k_ + 1 => L2_X3_searchs  k_ (L2_X3_search  i0_ k_)
def L1_X3_search (v : Nat) (pe : Nat) (lc : Nat) (L : Nat → Int32) : Nat → Nat → (Nat → Int32) → (Nat → Int32) → Int32 × Value × Int32 × (Nat → Int32) × (Nat → Int32)
  | 0, _, _, _ => (0, .null, 0, fun _ => 0, fun _ => 0)
  | m_ + 1, j1, fkk_1, fv15_1 => if nI (upN pe) < nI (lwN pe + j1) then (((-1 : Int32), (.ref v), evy (nI pe), fkk_1, fv15_1)) else (if (GO (evy (nI pe)) pe lc L (lwN pe + j1) (lwN pe + j1) (L2_X3_search fkk_1 pe) fv15_1).1 = 0 then (L1_X3_search v pe lc L m_ (j1 + 1) ((GO (evy (nI pe)) pe lc L (lwN pe + j1) (lwN pe + j1) (L2_X3_search fkk_1 pe) fv15_1).2.1) ((GO (evy (nI pe)) pe lc L (lwN pe + j1) (lwN pe + j1) (L2_X3_search fkk_1 pe) fv15_1).2.2)) else ((nI (lwN pe + j1), (.ref v), evy (nI pe), (GO (evy (nI pe)) pe lc L (lwN pe + j1) (lwN pe + j1) (L2_X3_search fkk_1 pe) fv15_1).2.1, (GO (evy (nI pe)) pe lc L (lwN pe + j1) (lwN pe + j1) (L2_X3_search fkk_1 pe) fv15_1).2.2)))
def F_X3_search (al0 : Int32) (w0 : Value) (v : Nat) (pe : Nat) (lc : Nat) (kn : Nat → Int32) (gr : Nat → Int32) (L : Nat → Int32) : Int32 × Value × Int32 × (Nat → Int32) × (Nat → Int32) := if 5 < nI pe then (((-1 : Int32), w0, al0, kn, gr)) else (if holds L lc pe = 0 then (((-1 : Int32), w0, al0, kn, gr)) else (L1_X3_search v pe lc L ((upN pe + 1 - lwN pe) + 1) 0 kn gr))
set_option maxHeartbeats 4000000 in
set_option maxRecDepth 100000 in
theorem K_X3_search (l : Launch) (g : GG) (g3 : Nat) (al0 : Int32) (kk : Nat) (w0 : Value) (v : Nat) (v3 : Nat) (v4 : Nat) (v5 : Nat) (v6 : Nat) (v7 : Nat) (v8 : Nat) (v9 : Nat) (v10 : Nat) (v11 : Nat) (v12 : Nat) (v13 : Nat) (v15 : Nat) (pe : Nat) (lc : Nat) (de : Int32) (gl : Int32) (kn : Nat → Int32) (gr : Nat → Int32) (L : Nat → Int32) (hlc : lc ≤ 12) (hpe : pe ≤ 7) (hE : endsIn L lc pe) : MetI l g yX3_search cX3_search 4 (some .int) 14 0 0 [.ref g3, .ref v] [(g3, .inr (3, [w0, .int al0, .ref kk])), (kk, .inl (g.2.1 1, 5, .inl kn)), (v, .inr (10, [.int (nI pe), .int (nI lc), .int de, .ref v3, .ref v4, .ref v5, .ref v6, .ref v7, .ref v8, .ref v9, .ref v10, .ref v11, .ref v12, .ref v13, .int gl, .ref v15])), (v9, .inl (g.2.1 1, 72, .inl L)), (v15, .inl (g.2.1 1, 7, .inl gr))] (fun r u => r = (F_X3_search al0 w0 v pe lc kn gr L).1 ∧ u = [(g3, .inr (3, [((F_X3_search al0 w0 v pe lc kn gr L).2.1), .int ((F_X3_search al0 w0 v pe lc kn gr L).2.2.1), .ref kk])), (kk, .inl (g.2.1 1, 5, .inl ((F_X3_search al0 w0 v pe lc kn gr L).2.2.2.1))), (v, .inr (10, [.int (nI pe), .int (nI lc), .int de, .ref v3, .ref v4, .ref v5, .ref v6, .ref v7, .ref v8, .ref v9, .ref v10, .ref v11, .ref v12, .ref v13, .int gl, .ref v15])), (v9, .inl (g.2.1 1, 72, .inl L)), (v15, .inl (g.2.1 1, 7, .inl ((F_X3_search al0 w0 v pe lc kn gr L).2.2.2.2)))]) := by
  refine MetI.of (own := RX3) rfl (by decide) (Nat.le_of_ble_eq_true rfl) ?_
  intro p e s m below meth c A ls args Q hQ X hr hin hW hl
  have hx := X.1
  have hb := X.2.1
  have hl : lv_has ls 4 [(0, .ref g3), (1, .ref v)] := hl
  refine lv_aload_n (pc := 0) hx hb dX3_search_0 rfl (lv_at hl 1 rfl) ?_
  refine r_getN X hW 2 ciX10 0 rfl (by decide) m_274 rfl rfl dX3_search_1 ?_
  refine lv_iconst (v := 5) (pc := 4) hx hb dX3_search_4 (by decide) ?_
  refine lv_icmp_gt (tgt := 15) (pc := 5) hx hb dX3_search_5 rfl (fun c1 => ?_) (fun c1 => ?_)
  · have h2 : 5 < pe := (nI_ltI (a := 5) (b := pe) (by omega) (by omega)).mp c1
    refine lv_iconst (v := (-1)) (pc := 15) hx hb dX3_search_15 (by decide) ?_
    have hF : F_X3_search al0 w0 v pe lc kn gr L = ((-1 : Int32), w0, al0, kn, gr) := show F_X3_search al0 w0 v pe lc kn gr L = ((-1 : Int32), w0, al0, kn, gr) from by rw [F_X3_search, if_pos c1]
    exact e_i (u := [(g3, .inr (3, [w0, .int al0, .ref kk])), (kk, .inl (g.2.1 1, 5, .inl kn)), (v, .inr (10, [.int (nI pe), .int (nI lc), .int de, .ref v3, .ref v4, .ref v5, .ref v6, .ref v7, .ref v8, .ref v9, .ref v10, .ref v11, .ref v12, .ref v13, .int gl, .ref v15])), (v9, .inl (g.2.1 1, 72, .inl L)), (v15, .inl (g.2.1 1, 7, .inl gr))]) X hQ hr (hW) [0, 1, 2, 3, 4] rfl rfl (⟨(congrArg Prod.fst hF).symm, by rw [hF]⟩) ⟨Nat.le_of_ble_eq_true rfl, Nat.le_of_ble_eq_true rfl⟩ dX3_search_16
  · have h3 : ¬ (5 < pe) := fun q => c1 ((nI_ltI (a := 5) (b := pe) (by omega) (by omega)).mpr q)
    have hpe5 : pe ≤ 5 := Nat.le_of_not_lt fun q9 => c1 ((nI_ltI (a := 5) (b := pe) (by omega) (by omega)).mpr q9)
    have hlu := lu_at pe (by omega)
    refine lv_aload_n (pc := 8) hx hb dX3_search_8 rfl (lv_at hl 1 rfl) ?_
    refine c_Vi (pc := 9) (As := []) (rest := []) (wr := [(g3, .inr (3, [w0, .int al0, .ref kk])), (kk, .inl (g.2.1 1, 5, .inl kn)), (v15, .inl (g.2.1 1, 7, .inl gr))]) X hW 2 ciX10 rfl (C_X10_holdsG l g v v3 v4 v5 v6 v7 v8 v9 v10 v11 v12 v13 v15 de gl L lc pe (by omega) (by omega)) vX3_28 [2, 3] [0, 1, 4] rfl rfl rfl rfl rfl rfl hl.1 rfl (Nat.le_of_ble_eq_true rfl) ⟨Nat.le_of_ble_eq_true rfl, Nat.le_of_ble_eq_true rfl⟩ ⟨Nat.le_of_ble_eq_true rfl, Nat.le_of_ble_eq_true rfl⟩ dX3_search_9 (fun r4 u9 H locs hq hW => ?_)
    obtain ⟨rfl, rfl⟩ := hq
    have hW : WD g A s _ _ [(g3, .inr (3, [w0, .int al0, .ref kk])), (kk, .inl (g.2.1 1, 5, .inl kn)), (v15, .inl (g.2.1 1, 7, .inl gr)), (v, .inr (10, [.int (nI pe), .int (nI lc), .int de, .ref v3, .ref v4, .ref v5, .ref v6, .ref v7, .ref v8, .ref v9, .ref v10, .ref v11, .ref v12, .ref v13, .int gl, .ref v15])), (v9, .inl (g.2.1 1, 72, .inl L))] := hW
    refine lv_if_ne (tgt := 17) (pc := 12) hx hb dX3_search_12 rfl (fun c5 => ?_) (fun c5 => ?_)
    · refine lv_aload_n (pc := 17) hx hb dX3_search_17 rfl (lv_at hl 0 rfl) ?_
      refine lv_aload_n (pc := 18) hx hb dX3_search_18 rfl (lv_at hl 1 rfl) ?_
      refine r_put (ws' := [(g3, .inr (3, [.ref v, .int al0, .ref kk])), (kk, .inl (g.2.1 1, 5, .inl kn)), (v15, .inl (g.2.1 1, 7, .inl gr)), (v, .inr (10, [.int (nI pe), .int (nI lc), .int de, .ref v3, .ref v4, .ref v5, .ref v6, .ref v7, .ref v8, .ref v9, .ref v10, .ref v11, .ref v12, .ref v13, .int gl, .ref v15])), (v9, .inl (g.2.1 1, 72, .inl L))]) X hW 0 ciX3 0 rfl (by decide) m_196 rfl rfl rfl rfl (Nat.le_of_ble_eq_true rfl) rfl dX3_search_19 (fun H locs hW => ?_)
      refine lv_aload_n (pc := 22) hx hb dX3_search_22 rfl (lv_at hl 0 rfl) ?_
      refine lv_aload_n (pc := 23) hx hb dX3_search_23 rfl (lv_at hl 1 rfl) ?_
      refine c_Vi (pc := 24) (As := []) (rest := [.ref g3]) (wr := [(g3, .inr (3, [.ref v, .int al0, .ref kk])), (kk, .inl (g.2.1 1, 5, .inl kn)), (v15, .inl (g.2.1 1, 7, .inl gr)), (v9, .inl (g.2.1 1, 72, .inl L))]) X hW 3 ciX10 rfl (C_X10_everyoneG l g v v3 v4 v5 v6 v7 v8 v9 v10 v11 v12 v13 v15 (nI pe) (nI lc) de gl) vX3_36 [3] [0, 1, 2, 4] rfl rfl rfl rfl rfl rfl hl.1 rfl (Nat.le_of_ble_eq_true rfl) ⟨Nat.le_of_ble_eq_true rfl, Nat.le_of_ble_eq_true rfl⟩ ⟨Nat.le_of_ble_eq_true rfl, Nat.le_of_ble_eq_true rfl⟩ dX3_search_24 (fun r7 u9 H locs hq hW => ?_)
      obtain ⟨rfl, rfl⟩ := hq
      have hW : WD g A s _ _ [(g3, .inr (3, [.ref v, .int al0, .ref kk])), (kk, .inl (g.2.1 1, 5, .inl kn)), (v15, .inl (g.2.1 1, 7, .inl gr)), (v9, .inl (g.2.1 1, 72, .inl L)), (v, .inr (10, [.int (nI pe), .int (nI lc), .int de, .ref v3, .ref v4, .ref v5, .ref v6, .ref v7, .ref v8, .ref v9, .ref v10, .ref v11, .ref v12, .ref v13, .int gl, .ref v15]))] := hW
      refine r_put (ws' := [(g3, .inr (3, [.ref v, .int (evy (nI pe)), .ref kk])), (kk, .inl (g.2.1 1, 5, .inl kn)), (v15, .inl (g.2.1 1, 7, .inl gr)), (v9, .inl (g.2.1 1, 72, .inl L)), (v, .inr (10, [.int (nI pe), .int (nI lc), .int de, .ref v3, .ref v4, .ref v5, .ref v6, .ref v7, .ref v8, .ref v9, .ref v10, .ref v11, .ref v12, .ref v13, .int gl, .ref v15]))]) X hW 0 ciX3 1 rfl (by decide) m_197 rfl rfl rfl rfl (Nat.le_of_ble_eq_true rfl) rfl dX3_search_27 (fun H locs hW => ?_)
      refine lv_aload_n (pc := 30) hx hb dX3_search_30 rfl (lv_at hl 1 rfl) ?_
      refine r_getN X hW 4 ciX10 0 rfl (by decide) m_274 rfl rfl dX3_search_31 ?_
      refine c_Si (pc := 34) (As := [.int (nI pe)]) (rest := []) (wr := [(g3, .inr (3, [.ref v, .int (evy (nI pe)), .ref kk])), (kk, .inl (g.2.1 1, 5, .inl kn)), (v15, .inl (g.2.1 1, 7, .inl gr)), (v9, .inl (g.2.1 1, 72, .inl L)), (v, .inr (10, [.int (nI pe), .int (nI lc), .int de, .ref v3, .ref v4, .ref v5, .ref v6, .ref v7, .ref v8, .ref v9, .ref v10, .ref v11, .ref v12, .ref v13, .int gl, .ref v15]))]) X hW (C_X3_lowerEndG l g (nI pe)) vX3_43 [] [0, 1, 2, 3, 4] rfl rfl rfl rfl rfl rfl hl.1 rfl (Nat.le_of_ble_eq_true rfl) ⟨Nat.le_of_ble_eq_true rfl, Nat.le_of_ble_eq_true rfl⟩ ⟨Nat.le_of_ble_eq_true rfl, Nat.le_of_ble_eq_true rfl⟩ dX3_search_34 (fun r8 u9 H locs hq hW => ?_)
      obtain ⟨rfl, rfl⟩ := hq
      have hW : WD g A s _ _ [(g3, .inr (3, [.ref v, .int (evy (nI pe)), .ref kk])), (kk, .inl (g.2.1 1, 5, .inl kn)), (v15, .inl (g.2.1 1, 7, .inl gr)), (v9, .inl (g.2.1 1, 72, .inl L)), (v, .inr (10, [.int (nI pe), .int (nI lc), .int de, .ref v3, .ref v4, .ref v5, .ref v6, .ref v7, .ref v8, .ref v9, .ref v10, .ref v11, .ref v12, .ref v13, .int gl, .ref v15]))] := hW
      rw [lw_at pe (by omega)]
      refine lv_istore_n (lv' := [(2, .int (nI (lwN pe))), (0, .ref g3), (1, .ref v)]) (pc := 37) hx hb dX3_search_37 rfl hl (by decide) rfl (fun ls hl => ?_)
      have loop1 : ∀ (fu1 : Nat) (j1 : Nat) (fkk_1 : Nat → Int32) (fv15_1 : Nat → Int32), ((upN pe + 1 - lwN pe) < fu1 + j1) → (j1 ≤ (upN pe + 1 - lwN pe)) → (L1_X3_search v pe lc L fu1 j1 fkk_1 fv15_1 = F_X3_search al0 w0 v pe lc kn gr L) → ∀ (H : Heap) (locs : List Loc) (ls : Array Slot), WD g A s H locs [(g3, .inr (3, [.ref v, .int (evy (nI pe)), .ref kk])), (kk, .inl (g.2.1 1, 5, .inl fkk_1)), (v15, .inl (g.2.1 1, 7, .inl fv15_1)), (v9, .inl (g.2.1 1, 72, .inl L)), (v, .inr (10, [.int (nI pe), .int (nI lc), .int de, .ref v3, .ref v4, .ref v5, .ref v6, .ref v7, .ref v8, .ref v9, .ref v10, .ref v11, .ref v12, .ref v13, .int gl, .ref v15]))] → lv_has ls 4 [(2, .int (nI (lwN pe + j1))), (0, .ref g3), (1, .ref v)] → W p l e (RM 14 0 0) s m args below meth c H locs 0 0 Q (F0 m 38 ls []) := by
        intro fu1
        induction fu1 with
        | zero =>
          intro j1 fkk_1 fv15_1 hm1 hj1 hst1
          exact absurd hm1 (by omega)
        | succ fu1 ih1 =>
          intro j1 fkk_1 fv15_1 hm1 hj1 hst1 H locs ls hW hl
          refine lv_iload_n (pc := 38) hx hb dX3_search_38 rfl (lv_at hl 0 rfl) ?_
          refine lv_aload_n (pc := 39) hx hb dX3_search_39 rfl (lv_at hl 2 rfl) ?_
          refine r_getN X hW 4 ciX10 0 rfl (by decide) m_274 rfl rfl dX3_search_40 ?_
          refine c_Si (pc := 43) (As := [.int (nI pe)]) (rest := [.int (nI (lwN pe + j1))]) (wr := [(g3, .inr (3, [.ref v, .int (evy (nI pe)), .ref kk])), (kk, .inl (g.2.1 1, 5, .inl fkk_1)), (v15, .inl (g.2.1 1, 7, .inl fv15_1)), (v9, .inl (g.2.1 1, 72, .inl L)), (v, .inr (10, [.int (nI pe), .int (nI lc), .int de, .ref v3, .ref v4, .ref v5, .ref v6, .ref v7, .ref v8, .ref v9, .ref v10, .ref v11, .ref v12, .ref v13, .int gl, .ref v15]))]) X hW (C_X3_upperEndG l g (nI pe)) vX3_47 [] [0, 1, 2, 3, 4] rfl rfl rfl rfl rfl rfl hl.1 rfl (Nat.le_of_ble_eq_true rfl) ⟨Nat.le_of_ble_eq_true rfl, Nat.le_of_ble_eq_true rfl⟩ ⟨Nat.le_of_ble_eq_true rfl, Nat.le_of_ble_eq_true rfl⟩ dX3_search_43 (fun r9 u9 H locs hq hW => ?_)
          obtain ⟨rfl, rfl⟩ := hq
          have hW : WD g A s _ _ [(g3, .inr (3, [.ref v, .int (evy (nI pe)), .ref kk])), (kk, .inl (g.2.1 1, 5, .inl fkk_1)), (v15, .inl (g.2.1 1, 7, .inl fv15_1)), (v9, .inl (g.2.1 1, 72, .inl L)), (v, .inr (10, [.int (nI pe), .int (nI lc), .int de, .ref v3, .ref v4, .ref v5, .ref v6, .ref v7, .ref v8, .ref v9, .ref v10, .ref v11, .ref v12, .ref v13, .int gl, .ref v15]))] := hW
          rw [up_at pe (by omega)]
          refine lv_icmp_gt (tgt := 91) (pc := 46) hx hb dX3_search_46 rfl (fun c10 => ?_) (fun c10 => ?_)
          · have h11 : (upN pe) < (lwN pe + j1) := (nI_ltI (a := (upN pe)) (b := (lwN pe + j1)) (by omega) (by omega)).mp c10
            refine lv_iconst (v := (-1)) (pc := 91) hx hb dX3_search_91 (by decide) ?_
            have hF : F_X3_search al0 w0 v pe lc kn gr L = ((-1 : Int32), (.ref v), evy (nI pe), fkk_1, fv15_1) := hst1.symm.trans (show L1_X3_search v pe lc L (fu1 + 1) j1 fkk_1 fv15_1 = ((-1 : Int32), (.ref v), evy (nI pe), fkk_1, fv15_1) from by rw [L1_X3_search, if_pos c10])
            exact e_i (u := [(g3, .inr (3, [.ref v, .int (evy (nI pe)), .ref kk])), (kk, .inl (g.2.1 1, 5, .inl fkk_1)), (v, .inr (10, [.int (nI pe), .int (nI lc), .int de, .ref v3, .ref v4, .ref v5, .ref v6, .ref v7, .ref v8, .ref v9, .ref v10, .ref v11, .ref v12, .ref v13, .int gl, .ref v15])), (v9, .inl (g.2.1 1, 72, .inl L)), (v15, .inl (g.2.1 1, 7, .inl fv15_1))]) X hQ hr (hW) [0, 1, 4, 3, 2] rfl rfl (⟨(congrArg Prod.fst hF).symm, by rw [hF]⟩) ⟨Nat.le_of_ble_eq_true rfl, Nat.le_of_ble_eq_true rfl⟩ dX3_search_92
          · have h12 : ¬ ((upN pe) < (lwN pe + j1)) := fun q => c10 ((nI_ltI (a := (upN pe)) (b := (lwN pe + j1)) (by omega) (by omega)).mpr q)
            refine lv_iconst (v := 0) (pc := 49) hx hb dX3_search_49 (by decide) ?_
            refine lv_istore_n (lv' := [(3, .int 0), (2, .int (nI (lwN pe + j1))), (0, .ref g3), (1, .ref v)]) (pc := 50) hx hb dX3_search_50 rfl hl (by decide) rfl (fun ls hl => ?_)
            have loop2 : ∀ (fu2 : Nat) (j2 : Nat) (fkk_2 : Nat → Int32), (pe < fu2 + j2) → (j2 ≤ pe) → (fkk_2 = L2_X3_search fkk_1 j2) → ∀ (H : Heap) (locs : List Loc) (ls : Array Slot), WD g A s H locs [(g3, .inr (3, [.ref v, .int (evy (nI pe)), .ref kk])), (kk, .inl (g.2.1 1, 5, .inl fkk_2)), (v15, .inl (g.2.1 1, 7, .inl fv15_1)), (v9, .inl (g.2.1 1, 72, .inl L)), (v, .inr (10, [.int (nI pe), .int (nI lc), .int de, .ref v3, .ref v4, .ref v5, .ref v6, .ref v7, .ref v8, .ref v9, .ref v10, .ref v11, .ref v12, .ref v13, .int gl, .ref v15]))] → lv_has ls 4 [(3, .int (nI j2)), (2, .int (nI (lwN pe + j1))), (0, .ref g3), (1, .ref v)] → W p l e (RM 14 0 0) s m args below meth c H locs 0 0 Q (F0 m 51 ls []) := by
              intro fu2
              induction fu2 with
              | zero =>
                intro j2 fkk_2 hm2 hj2 hst2
                exact absurd hm2 (by omega)
              | succ fu2 ih2 =>
                intro j2 fkk_2 hm2 hj2 hst2 H locs ls hW hl
                refine lv_iload_n (pc := 51) hx hb dX3_search_51 rfl (lv_at hl 0 rfl) ?_
                refine lv_aload_n (pc := 52) hx hb dX3_search_52 rfl (lv_at hl 3 rfl) ?_
                refine r_getN X hW 4 ciX10 0 rfl (by decide) m_274 rfl rfl dX3_search_53 ?_
                refine lv_icmp_ge (tgt := 74) (pc := 56) hx hb dX3_search_56 rfl (fun c13 => ?_) (fun c13 => ?_)
                · have h14 : pe ≤ j2 := (nI_leI (a := pe) (b := j2) (by omega) (by omega)).mp c13
                  have hN2 : j2 = pe := by omega
                  rw [hN2] at hst2
                  subst hst2
                  have hW : WD g A s _ _ [(g3, .inr (3, [.ref v, .int (evy (nI pe)), .ref kk])), (kk, .inl (g.2.1 1, 5, .inl (L2_X3_search fkk_1 pe))), (v15, .inl (g.2.1 1, 7, .inl fv15_1)), (v9, .inl (g.2.1 1, 72, .inl L)), (v, .inr (10, [.int (nI pe), .int (nI lc), .int de, .ref v3, .ref v4, .ref v5, .ref v6, .ref v7, .ref v8, .ref v9, .ref v10, .ref v11, .ref v12, .ref v13, .int gl, .ref v15]))] := hW
                  refine lv_aload_n (pc := 74) hx hb dX3_search_74 rfl (lv_at hl 2 rfl) ?_
                  refine lv_iconst (v := 0) (pc := 75) hx hb dX3_search_75 (by decide) ?_
                  refine lv_iload_n (pc := 76) hx hb dX3_search_76 rfl (lv_at hl 1 rfl) ?_
                  refine c_Vi (pc := 77) (As := [.int 0, .int (nI (lwN pe + j1))]) (rest := []) (wr := []) X hW 0 ciX3 rfl (K_go0 l g g3 (evy (nI pe)) kk v v3 v4 v5 v6 v7 v8 v9 v10 v11 v12 v13 v15 pe lc de gl L (lwN pe + j1) hlc hpe5 hE (by omega) (L2_X3_search fkk_1 pe) fv15_1) vX3_50 [0, 1, 4, 3, 2] [] rfl rfl rfl rfl rfl rfl hl.1 rfl (Nat.le_of_ble_eq_true rfl) ⟨Nat.le_of_ble_eq_true rfl, Nat.le_of_ble_eq_true rfl⟩ ⟨Nat.le_of_ble_eq_true rfl, Nat.le_of_ble_eq_true rfl⟩ dX3_search_77 (fun r15 u9 H locs hq hW => ?_)
                  obtain ⟨rfl, rfl⟩ := hq
                  have hW : WD g A s _ _ [(g3, .inr (3, [.ref v, .int (evy (nI pe)), .ref kk])), (kk, .inl (g.2.1 1, 5, .inl ((GO (evy (nI pe)) pe lc L (lwN pe + j1) (lwN pe + j1) (L2_X3_search fkk_1 pe) fv15_1).2.1))), (v, .inr (10, [.int (nI pe), .int (nI lc), .int de, .ref v3, .ref v4, .ref v5, .ref v6, .ref v7, .ref v8, .ref v9, .ref v10, .ref v11, .ref v12, .ref v13, .int gl, .ref v15])), (v9, .inl (g.2.1 1, 72, .inl L)), (v15, .inl (g.2.1 1, 7, .inl ((GO (evy (nI pe)) pe lc L (lwN pe + j1) (lwN pe + j1) (L2_X3_search fkk_1 pe) fv15_1).2.2)))] := hW
                  refine lv_if_eq (tgt := 85) (pc := 80) hx hb dX3_search_80 rfl (fun c16 => ?_) (fun c16 => ?_)
                  · refine lv_iinc (v := nI (lwN pe + j1 + 1)) (lv' := [(2, .int (nI (lwN pe + j1 + 1))), (3, .int (nI j2)), (0, .ref g3), (1, .ref v)]) (pc := 85) hx hb dX3_search_85 hl (k := 1) rfl (nI_add (lwN pe + j1) 1) (by decide) rfl (fun ls hl => ?_)
                    refine lv_goto (tgt := 38) (pc := 88) hx hb dX3_search_88 rfl ?_
                    have hW : WD g A s _ _ [(g3, .inr (3, [.ref v, .int (evy (nI pe)), .ref kk])), (kk, .inl (g.2.1 1, 5, .inl ((GO (evy (nI pe)) pe lc L (lwN pe + j1) (lwN pe + j1) (L2_X3_search fkk_1 pe) fv15_1).2.1))), (v15, .inl (g.2.1 1, 7, .inl ((GO (evy (nI pe)) pe lc L (lwN pe + j1) (lwN pe + j1) (L2_X3_search fkk_1 pe) fv15_1).2.2))), (v9, .inl (g.2.1 1, 72, .inl L)), (v, .inr (10, [.int (nI pe), .int (nI lc), .int de, .ref v3, .ref v4, .ref v5, .ref v6, .ref v7, .ref v8, .ref v9, .ref v10, .ref v11, .ref v12, .ref v13, .int gl, .ref v15]))] := hW.pick [0, 1, 4, 3, 2] rfl rfl
                    exact ih1 (j1 + 1) ((GO (evy (nI pe)) pe lc L (lwN pe + j1) (lwN pe + j1) (L2_X3_search fkk_1 pe) fv15_1).2.1) ((GO (evy (nI pe)) pe lc L (lwN pe + j1) (lwN pe + j1) (L2_X3_search fkk_1 pe) fv15_1).2.2) (by omega) (by omega) ((show L1_X3_search v pe lc L (fu1 + 1) j1 fkk_1 fv15_1 = L1_X3_search v pe lc L fu1 (j1 + 1) ((GO (evy (nI pe)) pe lc L (lwN pe + j1) (lwN pe + j1) (L2_X3_search fkk_1 pe) fv15_1).2.1) ((GO (evy (nI pe)) pe lc L (lwN pe + j1) (lwN pe + j1) (L2_X3_search fkk_1 pe) fv15_1).2.2) from by rw [L1_X3_search, if_neg c10, if_pos c16]).symm.trans hst1) _ _ _ hW (lv_sub hl [0, 2, 3] rfl)
                  · refine lv_iload_n (pc := 83) hx hb dX3_search_83 rfl (lv_at hl 1 rfl) ?_
                    have hF : F_X3_search al0 w0 v pe lc kn gr L = (nI (lwN pe + j1), (.ref v), evy (nI pe), (GO (evy (nI pe)) pe lc L (lwN pe + j1) (lwN pe + j1) (L2_X3_search fkk_1 pe) fv15_1).2.1, (GO (evy (nI pe)) pe lc L (lwN pe + j1) (lwN pe + j1) (L2_X3_search fkk_1 pe) fv15_1).2.2) := hst1.symm.trans (show L1_X3_search v pe lc L (fu1 + 1) j1 fkk_1 fv15_1 = (nI (lwN pe + j1), (.ref v), evy (nI pe), (GO (evy (nI pe)) pe lc L (lwN pe + j1) (lwN pe + j1) (L2_X3_search fkk_1 pe) fv15_1).2.1, (GO (evy (nI pe)) pe lc L (lwN pe + j1) (lwN pe + j1) (L2_X3_search fkk_1 pe) fv15_1).2.2) from by rw [L1_X3_search, if_neg c10, if_neg c16])
                    exact e_i (u := [(g3, .inr (3, [.ref v, .int (evy (nI pe)), .ref kk])), (kk, .inl (g.2.1 1, 5, .inl ((GO (evy (nI pe)) pe lc L (lwN pe + j1) (lwN pe + j1) (L2_X3_search fkk_1 pe) fv15_1).2.1))), (v, .inr (10, [.int (nI pe), .int (nI lc), .int de, .ref v3, .ref v4, .ref v5, .ref v6, .ref v7, .ref v8, .ref v9, .ref v10, .ref v11, .ref v12, .ref v13, .int gl, .ref v15])), (v9, .inl (g.2.1 1, 72, .inl L)), (v15, .inl (g.2.1 1, 7, .inl ((GO (evy (nI pe)) pe lc L (lwN pe + j1) (lwN pe + j1) (L2_X3_search fkk_1 pe) fv15_1).2.2)))]) X hQ hr (hW) [0, 1, 2, 3, 4] rfl rfl (⟨(congrArg Prod.fst hF).symm, by rw [hF]⟩) ⟨Nat.le_of_ble_eq_true rfl, Nat.le_of_ble_eq_true rfl⟩ dX3_search_84
                · have h19 : ¬ (pe ≤ j2) := fun q => c13 ((nI_leI (a := pe) (b := j2) (by omega) (by omega)).mpr q)
                  refine lv_aload_n (pc := 59) hx hb dX3_search_59 rfl (lv_at hl 2 rfl) ?_
                  refine r_get X hW 0 ciX3 2 rfl (by decide) m_198 rfl rfl dX3_search_60 ?_
                  refine lv_iload_n (pc := 63) hx hb dX3_search_63 rfl (lv_at hl 0 rfl) ?_
                  refine lv_iconst (v := 1) (pc := 64) hx hb dX3_search_64 (by decide) ?_
                  refine lv_iload_n (pc := 65) hx hb dX3_search_65 rfl (lv_at hl 0 rfl) ?_
                  refine lv_ishl (pc := 66) hx hb dX3_search_66 ?_
                  refine r_iast (ws' := [(g3, .inr (3, [.ref v, .int (evy (nI pe)), .ref kk])), (kk, .inl (g.2.1 1, 5, .inl (upd fkk_2 j2 ((1 : Int32) <<< ((nI j2) &&& 31))))), (v15, .inl (g.2.1 1, 7, .inl fv15_1)), (v9, .inl (g.2.1 1, 72, .inl L)), (v, .inr (10, [.int (nI pe), .int (nI lc), .int de, .ref v3, .ref v4, .ref v5, .ref v6, .ref v7, .ref v8, .ref v9, .ref v10, .ref v11, .ref v12, .ref v13, .int gl, .ref v15]))]) X hW 1 rfl (vp_in_nI (by omega) (by decide)) (f' := (upd fkk_2 j2 ((1 : Int32) <<< ((nI j2) &&& 31)))) (by rw [nI_clamp (by omega)]) rfl dX3_search_67 (fun H locs hW => ?_)
                  refine lv_iinc (v := nI (j2 + 1)) (lv' := [(3, .int (nI (j2 + 1))), (2, .int (nI (lwN pe + j1))), (0, .ref g3), (1, .ref v)]) (pc := 68) hx hb dX3_search_68 hl (k := 0) rfl (nI_add j2 1) (by decide) rfl (fun ls hl => ?_)
                  refine lv_goto (tgt := 51) (pc := 71) hx hb dX3_search_71 rfl ?_
                  exact ih2 (j2 + 1) (upd fkk_2 j2 ((1 : Int32) <<< ((nI j2) &&& 31))) (by omega) (by omega) (by rw [L2_X3_search, ← hst2]; exact (show L2_X3_searchs  j2 fkk_2 = (upd fkk_2 j2 ((1 : Int32) <<< ((nI j2) &&& 31))) from rfl).symm) _ _ _ hW (lv_sub hl [0, 1, 2, 3] rfl)
            exact loop2 (pe + 1) 0 fkk_1 (by omega) (by omega) rfl _ _ _ hW (lv_sub hl [0, 1, 2, 3] rfl)
      exact loop1 ((upN pe + 1 - lwN pe) + 1) 0 kn gr (by omega) (by omega) (show F_X3_search al0 w0 v pe lc kn gr L = L1_X3_search v pe lc L ((upN pe + 1 - lwN pe) + 1) 0 kn gr from by rw [F_X3_search, if_neg c1, if_neg c5]).symm _ _ _ hW (lv_sub hl [0, 1, 2] rfl)
    · refine lv_iconst (v := (-1)) (pc := 15) hx hb dX3_search_15 (by decide) ?_
      have hF : F_X3_search al0 w0 v pe lc kn gr L = ((-1 : Int32), w0, al0, kn, gr) := show F_X3_search al0 w0 v pe lc kn gr L = ((-1 : Int32), w0, al0, kn, gr) from by rw [F_X3_search, if_neg c1, if_pos c5]
      exact e_i (u := [(g3, .inr (3, [w0, .int al0, .ref kk])), (kk, .inl (g.2.1 1, 5, .inl kn)), (v, .inr (10, [.int (nI pe), .int (nI lc), .int de, .ref v3, .ref v4, .ref v5, .ref v6, .ref v7, .ref v8, .ref v9, .ref v10, .ref v11, .ref v12, .ref v13, .int gl, .ref v15])), (v9, .inl (g.2.1 1, 72, .inl L)), (v15, .inl (g.2.1 1, 7, .inl gr))]) X hQ hr (hW) [0, 1, 3, 4, 2] rfl rfl (⟨(congrArg Prod.fst hF).symm, by rw [hF]⟩) ⟨Nat.le_of_ble_eq_true rfl, Nat.le_of_ble_eq_true rfl⟩ dX3_search_16

theorem slr7 {v pe lc : Nat} {L : Nat → Int32} (hpe : pe ≤ 5) : ∀ (m j : Nat) (kn gr : Nat → Int32), (L1_X3_search v pe lc L m j kn gr).1 ≤ 7
  | 0, _, _, _ => (by decide : (0 : Int32) ≤ 7)
  | m + 1, j, kn, gr => by
    rw [L1_X3_search]
    by_cases c1 : nI (upN pe) < nI (lwN pe + j)
    · rw [if_pos c1]
      exact (by decide : (-1 : Int32) ≤ 7)
    · rw [if_neg c1]
      by_cases c2 : (GO (evy (nI pe)) pe lc L (lwN pe + j) (lwN pe + j) (L2_X3_search kn pe) gr).1 = 0
      · rw [if_pos c2]
        exact slr7 hpe m (j + 1) _ _
      · rw [if_neg c2]
        have h7 := (lu_at pe (by omega)).2
        exact Int32.le_trans (Int32.not_lt.mp c1) ((nI_leI (a := upN pe) (b := 7) (by omega) (by omega)).mpr h7)
theorem sr7 {al0 : Int32} {w0 : Value} {v pe lc : Nat} {kn gr L : Nat → Int32} (hpe : pe ≤ 7) : (F_X3_search al0 w0 v pe lc kn gr L).1 ≤ 7 := by
  unfold F_X3_search
  by_cases c1 : 5 < nI pe
  · rw [if_pos c1]
    exact (by decide : (-1 : Int32) ≤ 7)
  · rw [if_neg c1]
    have h5 : pe ≤ 5 := Nat.le_of_not_lt fun q9 => c1 ((nI_ltI (a := 5) (b := pe) (by omega) (by omega)).mpr q9)
    by_cases c2 : holds L lc pe = 0
    · rw [if_pos c2]
      exact (by decide : (-1 : Int32) ≤ 7)
    · rw [if_neg c2]
      exact slr7 h5 _ _ _ _
def F_X3_fewestCalls (al0 : Int32) (w0 : Value) (v : Nat) (pe : Nat) (lc : Nat) (gl : Int32) (kn : Nat → Int32) (gr : Nat → Int32) (L : Nat → Int32) : Int32 × Value × Int32 × (Nat → Int32) × (Nat → Int32) × Int32 := if gl = (-2) then (((F_X3_search al0 w0 v pe lc kn gr L).1, ((F_X3_search al0 w0 v pe lc kn gr L).2.1), (F_X3_search al0 w0 v pe lc kn gr L).2.2.1, ((F_X3_search al0 w0 v pe lc kn gr L).2.2.2.1), ((F_X3_search al0 w0 v pe lc kn gr L).2.2.2.2), (F_X3_search al0 w0 v pe lc kn gr L).1)) else ((gl, w0, al0, kn, gr, gl))
set_option maxHeartbeats 4000000 in
set_option maxRecDepth 100000 in
theorem K_X3_fewestCalls (l : Launch) (g : GG) (g3 : Nat) (al0 : Int32) (kk : Nat) (w0 : Value) (v : Nat) (v3 : Nat) (v4 : Nat) (v5 : Nat) (v6 : Nat) (v7 : Nat) (v8 : Nat) (v9 : Nat) (v10 : Nat) (v11 : Nat) (v12 : Nat) (v13 : Nat) (v15 : Nat) (pe : Nat) (lc : Nat) (de : Int32) (gl : Int32) (kn : Nat → Int32) (gr : Nat → Int32) (L : Nat → Int32) (hlc : lc ≤ 12) (hpe : pe ≤ 7) (hE : endsIn L lc pe) : MetI l g yX3_fewestCalls cX3_fewestCalls 2 (some .int) 15 0 0 [.ref g3, .ref v] [(g3, .inr (3, [w0, .int al0, .ref kk])), (kk, .inl (g.2.1 1, 5, .inl kn)), (v, .inr (10, [.int (nI pe), .int (nI lc), .int de, .ref v3, .ref v4, .ref v5, .ref v6, .ref v7, .ref v8, .ref v9, .ref v10, .ref v11, .ref v12, .ref v13, .int gl, .ref v15])), (v9, .inl (g.2.1 1, 72, .inl L)), (v15, .inl (g.2.1 1, 7, .inl gr))] (fun r u => r = (F_X3_fewestCalls al0 w0 v pe lc gl kn gr L).1 ∧ u = [(g3, .inr (3, [((F_X3_fewestCalls al0 w0 v pe lc gl kn gr L).2.1), .int ((F_X3_fewestCalls al0 w0 v pe lc gl kn gr L).2.2.1), .ref kk])), (kk, .inl (g.2.1 1, 5, .inl ((F_X3_fewestCalls al0 w0 v pe lc gl kn gr L).2.2.2.1))), (v, .inr (10, [.int (nI pe), .int (nI lc), .int de, .ref v3, .ref v4, .ref v5, .ref v6, .ref v7, .ref v8, .ref v9, .ref v10, .ref v11, .ref v12, .ref v13, .int ((F_X3_fewestCalls al0 w0 v pe lc gl kn gr L).2.2.2.2.2), .ref v15])), (v9, .inl (g.2.1 1, 72, .inl L)), (v15, .inl (g.2.1 1, 7, .inl ((F_X3_fewestCalls al0 w0 v pe lc gl kn gr L).2.2.2.2.1)))]) := by
  refine MetI.of (own := RX3) rfl (by decide) (Nat.le_of_ble_eq_true rfl) ?_
  intro p e s m below meth c A ls args Q hQ X hr hin hW hl
  have hx := X.1
  have hb := X.2.1
  have hl : lv_has ls 2 [(0, .ref g3), (1, .ref v)] := hl
  refine lv_aload_n (pc := 0) hx hb dX3_fewestCalls_0 rfl (lv_at hl 1 rfl) ?_
  refine r_getN X hW 2 ciX10 14 rfl (by decide) m_316 rfl rfl dX3_fewestCalls_1 ?_
  refine lv_bipush (v := (-2)) (pc := 4) hx hb dX3_fewestCalls_4 (by decide) ?_
  refine lv_icmp_ne (tgt := 18) (pc := 6) hx hb dX3_fewestCalls_6 rfl (fun c1 => ?_) (fun c1 => ?_)
  · refine lv_aload_n (pc := 18) hx hb dX3_fewestCalls_18 rfl (lv_at hl 1 rfl) ?_
    refine r_getN X hW 2 ciX10 14 rfl (by decide) m_316 rfl rfl dX3_fewestCalls_19 ?_
    have hF : F_X3_fewestCalls al0 w0 v pe lc gl kn gr L = (gl, w0, al0, kn, gr, gl) := show F_X3_fewestCalls al0 w0 v pe lc gl kn gr L = (gl, w0, al0, kn, gr, gl) from by rw [F_X3_fewestCalls, if_neg c1]
    exact e_i (u := [(g3, .inr (3, [w0, .int al0, .ref kk])), (kk, .inl (g.2.1 1, 5, .inl kn)), (v, .inr (10, [.int (nI pe), .int (nI lc), .int de, .ref v3, .ref v4, .ref v5, .ref v6, .ref v7, .ref v8, .ref v9, .ref v10, .ref v11, .ref v12, .ref v13, .int gl, .ref v15])), (v9, .inl (g.2.1 1, 72, .inl L)), (v15, .inl (g.2.1 1, 7, .inl gr))]) X hQ hr (hW) [0, 1, 2, 3, 4] rfl rfl (⟨(congrArg Prod.fst hF).symm, by rw [hF]⟩) ⟨Nat.le_of_ble_eq_true rfl, Nat.le_of_ble_eq_true rfl⟩ dX3_fewestCalls_22
  · refine lv_aload_n (pc := 9) hx hb dX3_fewestCalls_9 rfl (lv_at hl 1 rfl) ?_
    refine lv_aload_n (pc := 10) hx hb dX3_fewestCalls_10 rfl (lv_at hl 0 rfl) ?_
    refine lv_aload_n (pc := 11) hx hb dX3_fewestCalls_11 rfl (lv_at hl 1 rfl) ?_
    refine c_Vi (pc := 12) (As := [.ref v]) (rest := [.ref v]) (wr := []) X hW 0 ciX3 rfl (K_X3_search l g g3 al0 kk w0 v v3 v4 v5 v6 v7 v8 v9 v10 v11 v12 v13 v15 pe lc de gl kn gr L (by omega) (by omega) hE) vX3_21 [0, 1, 2, 3, 4] [] rfl rfl rfl rfl rfl rfl hl.1 rfl (Nat.le_of_ble_eq_true rfl) ⟨Nat.le_of_ble_eq_true rfl, Nat.le_of_ble_eq_true rfl⟩ ⟨Nat.le_of_ble_eq_true rfl, Nat.le_of_ble_eq_true rfl⟩ dX3_fewestCalls_12 (fun r4 u9 H locs hq hW => ?_)
    obtain ⟨rfl, rfl⟩ := hq
    have hW : WD g A s _ _ [(g3, .inr (3, [((F_X3_search al0 w0 v pe lc kn gr L).2.1), .int ((F_X3_search al0 w0 v pe lc kn gr L).2.2.1), .ref kk])), (kk, .inl (g.2.1 1, 5, .inl ((F_X3_search al0 w0 v pe lc kn gr L).2.2.2.1))), (v, .inr (10, [.int (nI pe), .int (nI lc), .int de, .ref v3, .ref v4, .ref v5, .ref v6, .ref v7, .ref v8, .ref v9, .ref v10, .ref v11, .ref v12, .ref v13, .int gl, .ref v15])), (v9, .inl (g.2.1 1, 72, .inl L)), (v15, .inl (g.2.1 1, 7, .inl ((F_X3_search al0 w0 v pe lc kn gr L).2.2.2.2)))] := hW
    refine r_putN (ws' := [(g3, .inr (3, [((F_X3_search al0 w0 v pe lc kn gr L).2.1), .int ((F_X3_search al0 w0 v pe lc kn gr L).2.2.1), .ref kk])), (kk, .inl (g.2.1 1, 5, .inl ((F_X3_search al0 w0 v pe lc kn gr L).2.2.2.1))), (v, .inr (10, [.int (nI pe), .int (nI lc), .int de, .ref v3, .ref v4, .ref v5, .ref v6, .ref v7, .ref v8, .ref v9, .ref v10, .ref v11, .ref v12, .ref v13, .int ((F_X3_search al0 w0 v pe lc kn gr L).1), .ref v15])), (v9, .inl (g.2.1 1, 72, .inl L)), (v15, .inl (g.2.1 1, 7, .inl ((F_X3_search al0 w0 v pe lc kn gr L).2.2.2.2)))]) X hW 2 ciX10 14 rfl (by decide) m_316 rfl rfl rfl rfl (Nat.le_of_ble_eq_true rfl) rfl dX3_fewestCalls_15 (fun H locs hW => ?_)
    refine lv_aload_n (pc := 18) hx hb dX3_fewestCalls_18 rfl (lv_at hl 1 rfl) ?_
    refine r_getN X hW 2 ciX10 14 rfl (by decide) m_316 rfl rfl dX3_fewestCalls_19 ?_
    have hF : F_X3_fewestCalls al0 w0 v pe lc gl kn gr L = ((F_X3_search al0 w0 v pe lc kn gr L).1, ((F_X3_search al0 w0 v pe lc kn gr L).2.1), (F_X3_search al0 w0 v pe lc kn gr L).2.2.1, ((F_X3_search al0 w0 v pe lc kn gr L).2.2.2.1), ((F_X3_search al0 w0 v pe lc kn gr L).2.2.2.2), (F_X3_search al0 w0 v pe lc kn gr L).1) := show F_X3_fewestCalls al0 w0 v pe lc gl kn gr L = ((F_X3_search al0 w0 v pe lc kn gr L).1, ((F_X3_search al0 w0 v pe lc kn gr L).2.1), (F_X3_search al0 w0 v pe lc kn gr L).2.2.1, ((F_X3_search al0 w0 v pe lc kn gr L).2.2.2.1), ((F_X3_search al0 w0 v pe lc kn gr L).2.2.2.2), (F_X3_search al0 w0 v pe lc kn gr L).1) from by rw [F_X3_fewestCalls, if_pos c1]
    exact e_i (u := [(g3, .inr (3, [((F_X3_search al0 w0 v pe lc kn gr L).2.1), .int ((F_X3_search al0 w0 v pe lc kn gr L).2.2.1), .ref kk])), (kk, .inl (g.2.1 1, 5, .inl ((F_X3_search al0 w0 v pe lc kn gr L).2.2.2.1))), (v, .inr (10, [.int (nI pe), .int (nI lc), .int de, .ref v3, .ref v4, .ref v5, .ref v6, .ref v7, .ref v8, .ref v9, .ref v10, .ref v11, .ref v12, .ref v13, .int ((F_X3_search al0 w0 v pe lc kn gr L).1), .ref v15])), (v9, .inl (g.2.1 1, 72, .inl L)), (v15, .inl (g.2.1 1, 7, .inl ((F_X3_search al0 w0 v pe lc kn gr L).2.2.2.2)))]) X hQ hr (hW) [0, 1, 2, 3, 4] rfl rfl (⟨(congrArg Prod.fst hF).symm, by rw [hF]⟩) ⟨Nat.le_of_ble_eq_true rfl, Nat.le_of_ble_eq_true rfl⟩ dX3_fewestCalls_22

theorem fw7 {al0 : Int32} {w0 : Value} {v pe lc : Nat} {gl : Int32} {kn gr L : Nat → Int32} (hpe : pe ≤ 7) (hgl : gl ≤ 7) : (F_X3_fewestCalls al0 w0 v pe lc gl kn gr L).1 ≤ 7 := by
  unfold F_X3_fewestCalls
  split
  · exact sr7 hpe
  · exact hgl
def F_X11_fewest0  : Int32 := (-1 : Int32)
set_option maxHeartbeats 4000000 in
set_option maxRecDepth 100000 in
theorem K_X11_fewest0 (l : Launch) (g : GG) (h0 : Nat) (a0 : Nat) (a1 : Nat) (a2 : Nat) (a3 : Nat) (a4 : Nat) (a5 : Nat) (a6 : Nat) (a7 : Nat) (a8 : Nat) (a9 : Nat) (a10 : Nat) (nv : Nat) (np : Nat) (cc : Int32) (fA : Nat → Option Nat) (x : Int32) (hbad : x < 0 ∨ nI nv ≤ x) : MetI l g yX11_fewest cX11_fewest 3 (some .int) 1 0 0 [.ref h0, .int x] [(h0, .inr (11, [.ref a0, .ref a1, .ref a2, .ref a3, .ref a4, .ref a5, .ref a6, .ref a7, .ref a8, .ref a9, .ref a10, .int (nI nv), .int (nI np), .int cc])), (a1, .inl (g.2.1 4, 10, .inr (.inr (.inr (.inr fA)))))] (fun r u => r = F_X11_fewest0 ∧ u = [(h0, .inr (11, [.ref a0, .ref a1, .ref a2, .ref a3, .ref a4, .ref a5, .ref a6, .ref a7, .ref a8, .ref a9, .ref a10, .int (nI nv), .int (nI np), .int cc])), (a1, .inl (g.2.1 4, 10, .inr (.inr (.inr (.inr fA)))))]) := by
  refine MetI.of (own := RX11) rfl (by decide) (Nat.le_of_ble_eq_true rfl) ?_
  intro p e s m below meth c A ls args Q hQ X hr hin hW hl
  have hx := X.1
  have hb := X.2.1
  have hl : lv_has ls 3 [(0, .ref h0), (1, .int x)] := hl
  refine lv_aload_n (pc := 0) hx hb dX11_fewest_0 rfl (lv_at hl 0 rfl) ?_
  refine lv_iload_n (pc := 1) hx hb dX11_fewest_1 rfl (lv_at hl 1 rfl) ?_
  refine c_Vq (pc := 2) (As := [.int x]) (rest := []) (wr := []) X hW 0 ciX11 rfl (C_X11_valleyAt0 l g h0 a0 a1 a2 a3 a4 a5 a6 a7 a8 a9 a10 nv np cc fA x hbad) vX11_101 [0, 1] [] rfl rfl rfl rfl rfl rfl hl.1 rfl (Nat.le_of_ble_eq_true rfl) ⟨Nat.le_of_ble_eq_true rfl, Nat.le_of_ble_eq_true rfl⟩ ⟨Nat.le_of_ble_eq_true rfl, Nat.le_of_ble_eq_true rfl⟩ dX11_fewest_2 (fun r1 u9 H locs hq hW => ?_)
  obtain ⟨rfl, rfl⟩ := hq
  have hW : WD g A s _ _ [(h0, .inr (11, [.ref a0, .ref a1, .ref a2, .ref a3, .ref a4, .ref a5, .ref a6, .ref a7, .ref a8, .ref a9, .ref a10, .int (nI nv), .int (nI np), .int cc])), (a1, .inl (g.2.1 4, 10, .inr (.inr (.inr (.inr fA)))))] := hW
  refine lv_astore_nN (lv' := [(2, .null), (0, .ref h0), (1, .int x)]) (pc := 5) hx hb dX11_fewest_5 rfl hl (by decide) rfl (fun ls hl => ?_)
  refine lv_aload_nN (pc := 6) hx hb dX11_fewest_6 rfl (lv_at hl 0 rfl) ?_
  refine lv_ifnonnullN (pc := 7) hx hb dX11_fewest_7 ?_
  refine lv_iconst (v := (-1)) (pc := 10) hx hb dX11_fewest_10 (by decide) ?_
  refine lv_goto (tgt := 22) (pc := 11) hx hb dX11_fewest_11 rfl ?_
  have hF : F_X11_fewest0 = (-1 : Int32) := show F_X11_fewest0 = (-1 : Int32) from rfl
  exact e_i (u := [(h0, .inr (11, [.ref a0, .ref a1, .ref a2, .ref a3, .ref a4, .ref a5, .ref a6, .ref a7, .ref a8, .ref a9, .ref a10, .int (nI nv), .int (nI np), .int cc])), (a1, .inl (g.2.1 4, 10, .inr (.inr (.inr (.inr fA)))))]) X hQ hr (hW) [0, 1] rfl rfl (⟨hF.symm, rfl⟩) ⟨Nat.le_of_ble_eq_true rfl, Nat.le_of_ble_eq_true rfl⟩ dX11_fewest_22

def F_X11_fewest1 (al0 : Int32) (w0 : Value) (v : Nat) (pe : Nat) (lc : Nat) (gl : Int32) (kn : Nat → Int32) (gr : Nat → Int32) (L : Nat → Int32) : Int32 × Value × Int32 × (Nat → Int32) × (Nat → Int32) × Int32 := ((F_X3_fewestCalls al0 w0 v pe lc gl kn gr L).1, ((F_X3_fewestCalls al0 w0 v pe lc gl kn gr L).2.1), (F_X3_fewestCalls al0 w0 v pe lc gl kn gr L).2.2.1, ((F_X3_fewestCalls al0 w0 v pe lc gl kn gr L).2.2.2.1), ((F_X3_fewestCalls al0 w0 v pe lc gl kn gr L).2.2.2.2.1), (F_X3_fewestCalls al0 w0 v pe lc gl kn gr L).2.2.2.2.2)
set_option maxHeartbeats 4000000 in
set_option maxRecDepth 100000 in
theorem K_X11_fewest1 (l : Launch) (g : GG) (h0 : Nat) (a0 : Nat) (a1 : Nat) (a2 : Nat) (a3 : Nat) (a4 : Nat) (a5 : Nat) (a6 : Nat) (a7 : Nat) (a8 : Nat) (a9 : Nat) (a10 : Nat) (nv : Nat) (np : Nat) (cc : Int32) (fA : Nat → Option Nat) (i : Nat) (al0 : Int32) (kk : Nat) (w0 : Value) (v : Nat) (v3 : Nat) (v4 : Nat) (v5 : Nat) (v6 : Nat) (v7 : Nat) (v8 : Nat) (v9 : Nat) (v10 : Nat) (v11 : Nat) (v12 : Nat) (v13 : Nat) (v15 : Nat) (pe : Nat) (lc : Nat) (de : Int32) (gl : Int32) (kn : Nat → Int32) (gr : Nat → Int32) (L : Nat → Int32) (hi : i < nv) (hn : nv ≤ 10) (hA : fA i = some v) (hlc : lc ≤ 12) (hpe : pe ≤ 7) (hE : endsIn L lc pe) : MetI l g yX11_fewest cX11_fewest 3 (some .int) 16 0 0 [.ref h0, .int (nI i)] [(h0, .inr (11, [.ref a0, .ref a1, .ref a2, .ref a3, .ref a4, .ref a5, .ref a6, .ref a7, .ref a8, .ref a9, .ref a10, .int (nI nv), .int (nI np), .int cc])), (a1, .inl (g.2.1 4, 10, .inr (.inr (.inr (.inr fA))))), (a6, .inr (3, [w0, .int al0, .ref kk])), (kk, .inl (g.2.1 1, 5, .inl kn)), (v, .inr (10, [.int (nI pe), .int (nI lc), .int de, .ref v3, .ref v4, .ref v5, .ref v6, .ref v7, .ref v8, .ref v9, .ref v10, .ref v11, .ref v12, .ref v13, .int gl, .ref v15])), (v9, .inl (g.2.1 1, 72, .inl L)), (v15, .inl (g.2.1 1, 7, .inl gr))] (fun r u => r = (F_X11_fewest1 al0 w0 v pe lc gl kn gr L).1 ∧ u = [(h0, .inr (11, [.ref a0, .ref a1, .ref a2, .ref a3, .ref a4, .ref a5, .ref a6, .ref a7, .ref a8, .ref a9, .ref a10, .int (nI nv), .int (nI np), .int cc])), (a1, .inl (g.2.1 4, 10, .inr (.inr (.inr (.inr fA))))), (a6, .inr (3, [((F_X11_fewest1 al0 w0 v pe lc gl kn gr L).2.1), .int ((F_X11_fewest1 al0 w0 v pe lc gl kn gr L).2.2.1), .ref kk])), (kk, .inl (g.2.1 1, 5, .inl ((F_X11_fewest1 al0 w0 v pe lc gl kn gr L).2.2.2.1))), (v, .inr (10, [.int (nI pe), .int (nI lc), .int de, .ref v3, .ref v4, .ref v5, .ref v6, .ref v7, .ref v8, .ref v9, .ref v10, .ref v11, .ref v12, .ref v13, .int ((F_X11_fewest1 al0 w0 v pe lc gl kn gr L).2.2.2.2.2), .ref v15])), (v9, .inl (g.2.1 1, 72, .inl L)), (v15, .inl (g.2.1 1, 7, .inl ((F_X11_fewest1 al0 w0 v pe lc gl kn gr L).2.2.2.2.1)))]) := by
  refine MetI.of (own := RX11) rfl (by decide) (Nat.le_of_ble_eq_true rfl) ?_
  intro p e s m below meth c A ls args Q hQ X hr hin hW hl
  have hx := X.1
  have hb := X.2.1
  have hl : lv_has ls 3 [(0, .ref h0), (1, .int (nI i))] := hl
  refine lv_aload_n (pc := 0) hx hb dX11_fewest_0 rfl (lv_at hl 0 rfl) ?_
  refine lv_iload_n (pc := 1) hx hb dX11_fewest_1 rfl (lv_at hl 1 rfl) ?_
  refine c_Vq (pc := 2) (As := [.int (nI i)]) (rest := []) (wr := [(a6, .inr (3, [w0, .int al0, .ref kk])), (kk, .inl (g.2.1 1, 5, .inl kn)), (v, .inr (10, [.int (nI pe), .int (nI lc), .int de, .ref v3, .ref v4, .ref v5, .ref v6, .ref v7, .ref v8, .ref v9, .ref v10, .ref v11, .ref v12, .ref v13, .int gl, .ref v15])), (v9, .inl (g.2.1 1, 72, .inl L)), (v15, .inl (g.2.1 1, 7, .inl gr))]) X hW 0 ciX11 rfl (C_X11_valleyAt1 l g h0 a0 a1 a2 a3 a4 a5 a6 a7 a8 a9 a10 nv np cc fA i v (by omega) (by omega) hA) vX11_101 [0, 1] [2, 3, 4, 5, 6] rfl rfl rfl rfl rfl rfl hl.1 rfl (Nat.le_of_ble_eq_true rfl) ⟨Nat.le_of_ble_eq_true rfl, Nat.le_of_ble_eq_true rfl⟩ ⟨Nat.le_of_ble_eq_true rfl, Nat.le_of_ble_eq_true rfl⟩ dX11_fewest_2 (fun r1 u9 H locs hq hW => ?_)
  obtain ⟨rfl, rfl⟩ := hq
  have hW : WD g A s _ _ [(a6, .inr (3, [w0, .int al0, .ref kk])), (kk, .inl (g.2.1 1, 5, .inl kn)), (v, .inr (10, [.int (nI pe), .int (nI lc), .int de, .ref v3, .ref v4, .ref v5, .ref v6, .ref v7, .ref v8, .ref v9, .ref v10, .ref v11, .ref v12, .ref v13, .int gl, .ref v15])), (v9, .inl (g.2.1 1, 72, .inl L)), (v15, .inl (g.2.1 1, 7, .inl gr)), (h0, .inr (11, [.ref a0, .ref a1, .ref a2, .ref a3, .ref a4, .ref a5, .ref a6, .ref a7, .ref a8, .ref a9, .ref a10, .int (nI nv), .int (nI np), .int cc])), (a1, .inl (g.2.1 4, 10, .inr (.inr (.inr (.inr fA)))))] := hW
  refine lv_astore_n (lv' := [(2, .ref v), (0, .ref h0), (1, .int (nI i))]) (pc := 5) hx hb dX11_fewest_5 rfl hl (by decide) rfl (fun ls hl => ?_)
  refine lv_aload_n (pc := 6) hx hb dX11_fewest_6 rfl (lv_at hl 0 rfl) ?_
  refine lv_ifnonnull (tgt := 14) (pc := 7) hx hb dX11_fewest_7 rfl ?_
  refine lv_aload_n (pc := 14) hx hb dX11_fewest_14 rfl (lv_at hl 1 rfl) ?_
  refine r_get X hW 5 ciX11 6 rfl (by decide) m_359 rfl rfl dX11_fewest_15 ?_
  refine lv_aload_n (pc := 18) hx hb dX11_fewest_18 rfl (lv_at hl 0 rfl) ?_
  refine c_Vi (pc := 19) (As := [.ref v]) (rest := []) (wr := [(h0, .inr (11, [.ref a0, .ref a1, .ref a2, .ref a3, .ref a4, .ref a5, .ref a6, .ref a7, .ref a8, .ref a9, .ref a10, .int (nI nv), .int (nI np), .int cc])), (a1, .inl (g.2.1 4, 10, .inr (.inr (.inr (.inr fA)))))]) X hW 0 ciX3 rfl (K_X3_fewestCalls l g a6 al0 kk w0 v v3 v4 v5 v6 v7 v8 v9 v10 v11 v12 v13 v15 pe lc de gl kn gr L (by omega) (by omega) hE) vX11_253 [0, 1, 2, 3, 4] [5, 6] rfl rfl rfl rfl rfl rfl hl.1 rfl (Nat.le_of_ble_eq_true rfl) ⟨Nat.le_of_ble_eq_true rfl, Nat.le_of_ble_eq_true rfl⟩ ⟨Nat.le_of_ble_eq_true rfl, Nat.le_of_ble_eq_true rfl⟩ dX11_fewest_19 (fun r2 u9 H locs hq hW => ?_)
  obtain ⟨rfl, rfl⟩ := hq
  have hW : WD g A s _ _ [(h0, .inr (11, [.ref a0, .ref a1, .ref a2, .ref a3, .ref a4, .ref a5, .ref a6, .ref a7, .ref a8, .ref a9, .ref a10, .int (nI nv), .int (nI np), .int cc])), (a1, .inl (g.2.1 4, 10, .inr (.inr (.inr (.inr fA))))), (a6, .inr (3, [((F_X3_fewestCalls al0 w0 v pe lc gl kn gr L).2.1), .int ((F_X3_fewestCalls al0 w0 v pe lc gl kn gr L).2.2.1), .ref kk])), (kk, .inl (g.2.1 1, 5, .inl ((F_X3_fewestCalls al0 w0 v pe lc gl kn gr L).2.2.2.1))), (v, .inr (10, [.int (nI pe), .int (nI lc), .int de, .ref v3, .ref v4, .ref v5, .ref v6, .ref v7, .ref v8, .ref v9, .ref v10, .ref v11, .ref v12, .ref v13, .int ((F_X3_fewestCalls al0 w0 v pe lc gl kn gr L).2.2.2.2.2), .ref v15])), (v9, .inl (g.2.1 1, 72, .inl L)), (v15, .inl (g.2.1 1, 7, .inl ((F_X3_fewestCalls al0 w0 v pe lc gl kn gr L).2.2.2.2.1)))] := hW
  have hF : F_X11_fewest1 al0 w0 v pe lc gl kn gr L = ((F_X3_fewestCalls al0 w0 v pe lc gl kn gr L).1, ((F_X3_fewestCalls al0 w0 v pe lc gl kn gr L).2.1), (F_X3_fewestCalls al0 w0 v pe lc gl kn gr L).2.2.1, ((F_X3_fewestCalls al0 w0 v pe lc gl kn gr L).2.2.2.1), ((F_X3_fewestCalls al0 w0 v pe lc gl kn gr L).2.2.2.2.1), (F_X3_fewestCalls al0 w0 v pe lc gl kn gr L).2.2.2.2.2) := show F_X11_fewest1 al0 w0 v pe lc gl kn gr L = ((F_X3_fewestCalls al0 w0 v pe lc gl kn gr L).1, ((F_X3_fewestCalls al0 w0 v pe lc gl kn gr L).2.1), (F_X3_fewestCalls al0 w0 v pe lc gl kn gr L).2.2.1, ((F_X3_fewestCalls al0 w0 v pe lc gl kn gr L).2.2.2.1), ((F_X3_fewestCalls al0 w0 v pe lc gl kn gr L).2.2.2.2.1), (F_X3_fewestCalls al0 w0 v pe lc gl kn gr L).2.2.2.2.2) from rfl
  exact e_i (u := [(h0, .inr (11, [.ref a0, .ref a1, .ref a2, .ref a3, .ref a4, .ref a5, .ref a6, .ref a7, .ref a8, .ref a9, .ref a10, .int (nI nv), .int (nI np), .int cc])), (a1, .inl (g.2.1 4, 10, .inr (.inr (.inr (.inr fA))))), (a6, .inr (3, [((F_X3_fewestCalls al0 w0 v pe lc gl kn gr L).2.1), .int ((F_X3_fewestCalls al0 w0 v pe lc gl kn gr L).2.2.1), .ref kk])), (kk, .inl (g.2.1 1, 5, .inl ((F_X3_fewestCalls al0 w0 v pe lc gl kn gr L).2.2.2.1))), (v, .inr (10, [.int (nI pe), .int (nI lc), .int de, .ref v3, .ref v4, .ref v5, .ref v6, .ref v7, .ref v8, .ref v9, .ref v10, .ref v11, .ref v12, .ref v13, .int ((F_X3_fewestCalls al0 w0 v pe lc gl kn gr L).2.2.2.2.2), .ref v15])), (v9, .inl (g.2.1 1, 72, .inl L)), (v15, .inl (g.2.1 1, 7, .inl ((F_X3_fewestCalls al0 w0 v pe lc gl kn gr L).2.2.2.2.1)))]) X hQ hr (hW) [0, 1, 2, 3, 4, 5, 6] rfl rfl (⟨(congrArg Prod.fst hF).symm, by rw [hF]⟩) ⟨Nat.le_of_ble_eq_true rfl, Nat.le_of_ble_eq_true rfl⟩ dX11_fewest_22

def F_X11_gossip0  : Int32 := (-1 : Int32)
set_option maxHeartbeats 4000000 in
set_option maxRecDepth 100000 in
theorem K_X11_gossip0 (l : Launch) (g : GG) (h0 : Nat) (a0 : Nat) (a1 : Nat) (a2 : Nat) (a3 : Nat) (a4 : Nat) (a5 : Nat) (a6 : Nat) (a7 : Nat) (a8 : Nat) (a9 : Nat) (a10 : Nat) (nv : Nat) (np : Nat) (cc : Int32) (fA : Nat → Option Nat) (x : Int32) (y : Int32) (hbad : x < 0 ∨ nI nv ≤ x) : MetI l g yX11_gossip cX11_gossip 4 (some .int) 1 0 0 [.ref h0, .int x, .int y] [(h0, .inr (11, [.ref a0, .ref a1, .ref a2, .ref a3, .ref a4, .ref a5, .ref a6, .ref a7, .ref a8, .ref a9, .ref a10, .int (nI nv), .int (nI np), .int cc])), (a1, .inl (g.2.1 4, 10, .inr (.inr (.inr (.inr fA)))))] (fun r u => r = F_X11_gossip0 ∧ u = [(h0, .inr (11, [.ref a0, .ref a1, .ref a2, .ref a3, .ref a4, .ref a5, .ref a6, .ref a7, .ref a8, .ref a9, .ref a10, .int (nI nv), .int (nI np), .int cc])), (a1, .inl (g.2.1 4, 10, .inr (.inr (.inr (.inr fA)))))]) := by
  refine MetI.of (own := RX11) rfl (by decide) (Nat.le_of_ble_eq_true rfl) ?_
  intro p e s m below meth c A ls args Q hQ X hr hin hW hl
  have hx := X.1
  have hb := X.2.1
  have hl : lv_has ls 4 [(0, .ref h0), (1, .int x), (2, .int y)] := hl
  refine lv_aload_n (pc := 0) hx hb dX11_gossip_0 rfl (lv_at hl 0 rfl) ?_
  refine lv_iload_n (pc := 1) hx hb dX11_gossip_1 rfl (lv_at hl 1 rfl) ?_
  refine c_Vq (pc := 2) (As := [.int x]) (rest := []) (wr := []) X hW 0 ciX11 rfl (C_X11_valleyAt0 l g h0 a0 a1 a2 a3 a4 a5 a6 a7 a8 a9 a10 nv np cc fA x hbad) vX11_101 [0, 1] [] rfl rfl rfl rfl rfl rfl hl.1 rfl (Nat.le_of_ble_eq_true rfl) ⟨Nat.le_of_ble_eq_true rfl, Nat.le_of_ble_eq_true rfl⟩ ⟨Nat.le_of_ble_eq_true rfl, Nat.le_of_ble_eq_true rfl⟩ dX11_gossip_2 (fun r1 u9 H locs hq hW => ?_)
  obtain ⟨rfl, rfl⟩ := hq
  have hW : WD g A s _ _ [(h0, .inr (11, [.ref a0, .ref a1, .ref a2, .ref a3, .ref a4, .ref a5, .ref a6, .ref a7, .ref a8, .ref a9, .ref a10, .int (nI nv), .int (nI np), .int cc])), (a1, .inl (g.2.1 4, 10, .inr (.inr (.inr (.inr fA)))))] := hW
  refine lv_astore_nN (lv' := [(3, .null), (0, .ref h0), (1, .int x), (2, .int y)]) (pc := 5) hx hb dX11_gossip_5 rfl hl (by decide) rfl (fun ls hl => ?_)
  refine lv_aload_nN (pc := 6) hx hb dX11_gossip_6 rfl (lv_at hl 0 rfl) ?_
  refine lv_ifnullN (tgt := 26) (pc := 7) hx hb dX11_gossip_7 rfl ?_
  refine lv_iconst (v := (-1)) (pc := 26) hx hb dX11_gossip_26 (by decide) ?_
  have hF : F_X11_gossip0 = (-1 : Int32) := show F_X11_gossip0 = (-1 : Int32) from rfl
  exact e_i (u := [(h0, .inr (11, [.ref a0, .ref a1, .ref a2, .ref a3, .ref a4, .ref a5, .ref a6, .ref a7, .ref a8, .ref a9, .ref a10, .int (nI nv), .int (nI np), .int cc])), (a1, .inl (g.2.1 4, 10, .inr (.inr (.inr (.inr fA)))))]) X hQ hr (hW) [0, 1] rfl rfl (⟨hF.symm, rfl⟩) ⟨Nat.le_of_ble_eq_true rfl, Nat.le_of_ble_eq_true rfl⟩ dX11_gossip_27

def F_X11_gossip1 (al0 : Int32) (w0 : Value) (v : Nat) (pe : Nat) (lc : Nat) (gl : Int32) (kn : Nat → Int32) (gr : Nat → Int32) (L : Nat → Int32) (y : Int32) : Int32 × Value × Int32 × (Nat → Int32) × (Nat → Int32) × Int32 := if y < 0 then (((-1 : Int32), w0, al0, kn, gr, gl)) else (if y < (F_X3_fewestCalls al0 w0 v pe lc gl kn gr L).1 then ((((F_X3_fewestCalls al0 w0 v pe lc gl kn gr L).2.2.2.2.1) (tN y), ((F_X3_fewestCalls al0 w0 v pe lc gl kn gr L).2.1), (F_X3_fewestCalls al0 w0 v pe lc gl kn gr L).2.2.1, ((F_X3_fewestCalls al0 w0 v pe lc gl kn gr L).2.2.2.1), ((F_X3_fewestCalls al0 w0 v pe lc gl kn gr L).2.2.2.2.1), (F_X3_fewestCalls al0 w0 v pe lc gl kn gr L).2.2.2.2.2)) else (((-1 : Int32), ((F_X3_fewestCalls al0 w0 v pe lc gl kn gr L).2.1), (F_X3_fewestCalls al0 w0 v pe lc gl kn gr L).2.2.1, ((F_X3_fewestCalls al0 w0 v pe lc gl kn gr L).2.2.2.1), ((F_X3_fewestCalls al0 w0 v pe lc gl kn gr L).2.2.2.2.1), (F_X3_fewestCalls al0 w0 v pe lc gl kn gr L).2.2.2.2.2)))
set_option maxHeartbeats 4000000 in
set_option maxRecDepth 100000 in
theorem K_X11_gossip1 (l : Launch) (g : GG) (h0 : Nat) (a0 : Nat) (a1 : Nat) (a2 : Nat) (a3 : Nat) (a4 : Nat) (a5 : Nat) (a6 : Nat) (a7 : Nat) (a8 : Nat) (a9 : Nat) (a10 : Nat) (nv : Nat) (np : Nat) (cc : Int32) (fA : Nat → Option Nat) (i : Nat) (al0 : Int32) (kk : Nat) (w0 : Value) (v : Nat) (v3 : Nat) (v4 : Nat) (v5 : Nat) (v6 : Nat) (v7 : Nat) (v8 : Nat) (v9 : Nat) (v10 : Nat) (v11 : Nat) (v12 : Nat) (v13 : Nat) (v15 : Nat) (pe : Nat) (lc : Nat) (de : Int32) (gl : Int32) (kn : Nat → Int32) (gr : Nat → Int32) (L : Nat → Int32) (y : Int32) (hi : i < nv) (hn : nv ≤ 10) (hA : fA i = some v) (hlc : lc ≤ 12) (hpe : pe ≤ 7) (hE : endsIn L lc pe) (hgl : gl ≤ 7) : MetI l g yX11_gossip cX11_gossip 4 (some .int) 16 0 0 [.ref h0, .int (nI i), .int y] [(h0, .inr (11, [.ref a0, .ref a1, .ref a2, .ref a3, .ref a4, .ref a5, .ref a6, .ref a7, .ref a8, .ref a9, .ref a10, .int (nI nv), .int (nI np), .int cc])), (a1, .inl (g.2.1 4, 10, .inr (.inr (.inr (.inr fA))))), (a6, .inr (3, [w0, .int al0, .ref kk])), (kk, .inl (g.2.1 1, 5, .inl kn)), (v, .inr (10, [.int (nI pe), .int (nI lc), .int de, .ref v3, .ref v4, .ref v5, .ref v6, .ref v7, .ref v8, .ref v9, .ref v10, .ref v11, .ref v12, .ref v13, .int gl, .ref v15])), (v9, .inl (g.2.1 1, 72, .inl L)), (v15, .inl (g.2.1 1, 7, .inl gr))] (fun r u => r = (F_X11_gossip1 al0 w0 v pe lc gl kn gr L y).1 ∧ u = [(h0, .inr (11, [.ref a0, .ref a1, .ref a2, .ref a3, .ref a4, .ref a5, .ref a6, .ref a7, .ref a8, .ref a9, .ref a10, .int (nI nv), .int (nI np), .int cc])), (a1, .inl (g.2.1 4, 10, .inr (.inr (.inr (.inr fA))))), (a6, .inr (3, [((F_X11_gossip1 al0 w0 v pe lc gl kn gr L y).2.1), .int ((F_X11_gossip1 al0 w0 v pe lc gl kn gr L y).2.2.1), .ref kk])), (kk, .inl (g.2.1 1, 5, .inl ((F_X11_gossip1 al0 w0 v pe lc gl kn gr L y).2.2.2.1))), (v, .inr (10, [.int (nI pe), .int (nI lc), .int de, .ref v3, .ref v4, .ref v5, .ref v6, .ref v7, .ref v8, .ref v9, .ref v10, .ref v11, .ref v12, .ref v13, .int ((F_X11_gossip1 al0 w0 v pe lc gl kn gr L y).2.2.2.2.2), .ref v15])), (v9, .inl (g.2.1 1, 72, .inl L)), (v15, .inl (g.2.1 1, 7, .inl ((F_X11_gossip1 al0 w0 v pe lc gl kn gr L y).2.2.2.2.1)))]) := by
  refine MetI.of (own := RX11) rfl (by decide) (Nat.le_of_ble_eq_true rfl) ?_
  intro p e s m below meth c A ls args Q hQ X hr hin hW hl
  have hx := X.1
  have hb := X.2.1
  have hl : lv_has ls 4 [(0, .ref h0), (1, .int (nI i)), (2, .int y)] := hl
  refine lv_aload_n (pc := 0) hx hb dX11_gossip_0 rfl (lv_at hl 0 rfl) ?_
  refine lv_iload_n (pc := 1) hx hb dX11_gossip_1 rfl (lv_at hl 1 rfl) ?_
  refine c_Vq (pc := 2) (As := [.int (nI i)]) (rest := []) (wr := [(a6, .inr (3, [w0, .int al0, .ref kk])), (kk, .inl (g.2.1 1, 5, .inl kn)), (v, .inr (10, [.int (nI pe), .int (nI lc), .int de, .ref v3, .ref v4, .ref v5, .ref v6, .ref v7, .ref v8, .ref v9, .ref v10, .ref v11, .ref v12, .ref v13, .int gl, .ref v15])), (v9, .inl (g.2.1 1, 72, .inl L)), (v15, .inl (g.2.1 1, 7, .inl gr))]) X hW 0 ciX11 rfl (C_X11_valleyAt1 l g h0 a0 a1 a2 a3 a4 a5 a6 a7 a8 a9 a10 nv np cc fA i v (by omega) (by omega) hA) vX11_101 [0, 1] [2, 3, 4, 5, 6] rfl rfl rfl rfl rfl rfl hl.1 rfl (Nat.le_of_ble_eq_true rfl) ⟨Nat.le_of_ble_eq_true rfl, Nat.le_of_ble_eq_true rfl⟩ ⟨Nat.le_of_ble_eq_true rfl, Nat.le_of_ble_eq_true rfl⟩ dX11_gossip_2 (fun r1 u9 H locs hq hW => ?_)
  obtain ⟨rfl, rfl⟩ := hq
  have hW : WD g A s _ _ [(a6, .inr (3, [w0, .int al0, .ref kk])), (kk, .inl (g.2.1 1, 5, .inl kn)), (v, .inr (10, [.int (nI pe), .int (nI lc), .int de, .ref v3, .ref v4, .ref v5, .ref v6, .ref v7, .ref v8, .ref v9, .ref v10, .ref v11, .ref v12, .ref v13, .int gl, .ref v15])), (v9, .inl (g.2.1 1, 72, .inl L)), (v15, .inl (g.2.1 1, 7, .inl gr)), (h0, .inr (11, [.ref a0, .ref a1, .ref a2, .ref a3, .ref a4, .ref a5, .ref a6, .ref a7, .ref a8, .ref a9, .ref a10, .int (nI nv), .int (nI np), .int cc])), (a1, .inl (g.2.1 4, 10, .inr (.inr (.inr (.inr fA)))))] := hW
  refine lv_astore_n (lv' := [(3, .ref v), (0, .ref h0), (1, .int (nI i)), (2, .int y)]) (pc := 5) hx hb dX11_gossip_5 rfl hl (by decide) rfl (fun ls hl => ?_)
  refine lv_aload_n (pc := 6) hx hb dX11_gossip_6 rfl (lv_at hl 0 rfl) ?_
  refine lv_ifnull (pc := 7) hx hb dX11_gossip_7 ?_
  refine lv_iload_n (pc := 10) hx hb dX11_gossip_10 rfl (lv_at hl 3 rfl) ?_
  refine lv_if_lt (tgt := 26) (pc := 11) hx hb dX11_gossip_11 rfl (fun c2 => ?_) (fun c2 => ?_)
  · refine lv_iconst (v := (-1)) (pc := 26) hx hb dX11_gossip_26 (by decide) ?_
    have hF : F_X11_gossip1 al0 w0 v pe lc gl kn gr L y = ((-1 : Int32), w0, al0, kn, gr, gl) := show F_X11_gossip1 al0 w0 v pe lc gl kn gr L y = ((-1 : Int32), w0, al0, kn, gr, gl) from by rw [F_X11_gossip1, if_pos c2]
    exact e_i (u := [(h0, .inr (11, [.ref a0, .ref a1, .ref a2, .ref a3, .ref a4, .ref a5, .ref a6, .ref a7, .ref a8, .ref a9, .ref a10, .int (nI nv), .int (nI np), .int cc])), (a1, .inl (g.2.1 4, 10, .inr (.inr (.inr (.inr fA))))), (a6, .inr (3, [w0, .int al0, .ref kk])), (kk, .inl (g.2.1 1, 5, .inl kn)), (v, .inr (10, [.int (nI pe), .int (nI lc), .int de, .ref v3, .ref v4, .ref v5, .ref v6, .ref v7, .ref v8, .ref v9, .ref v10, .ref v11, .ref v12, .ref v13, .int gl, .ref v15])), (v9, .inl (g.2.1 1, 72, .inl L)), (v15, .inl (g.2.1 1, 7, .inl gr))]) X hQ hr (hW) [5, 6, 0, 1, 2, 3, 4] rfl rfl (⟨(congrArg Prod.fst hF).symm, by rw [hF]⟩) ⟨Nat.le_of_ble_eq_true rfl, Nat.le_of_ble_eq_true rfl⟩ dX11_gossip_27
  · have q11 := c2
    refine lv_iload_n (pc := 14) hx hb dX11_gossip_14 rfl (lv_at hl 3 rfl) ?_
    refine lv_aload_n (pc := 15) hx hb dX11_gossip_15 rfl (lv_at hl 1 rfl) ?_
    refine r_get X hW 5 ciX11 6 rfl (by decide) m_359 rfl rfl dX11_gossip_16 ?_
    refine lv_aload_n (pc := 19) hx hb dX11_gossip_19 rfl (lv_at hl 0 rfl) ?_
    refine c_Vi (pc := 20) (As := [.ref v]) (rest := [.int y]) (wr := [(h0, .inr (11, [.ref a0, .ref a1, .ref a2, .ref a3, .ref a4, .ref a5, .ref a6, .ref a7, .ref a8, .ref a9, .ref a10, .int (nI nv), .int (nI np), .int cc])), (a1, .inl (g.2.1 4, 10, .inr (.inr (.inr (.inr fA)))))]) X hW 0 ciX3 rfl (K_X3_fewestCalls l g a6 al0 kk w0 v v3 v4 v5 v6 v7 v8 v9 v10 v11 v12 v13 v15 pe lc de gl kn gr L (by omega) (by omega) hE) vX11_253 [0, 1, 2, 3, 4] [5, 6] rfl rfl rfl rfl rfl rfl hl.1 rfl (Nat.le_of_ble_eq_true rfl) ⟨Nat.le_of_ble_eq_true rfl, Nat.le_of_ble_eq_true rfl⟩ ⟨Nat.le_of_ble_eq_true rfl, Nat.le_of_ble_eq_true rfl⟩ dX11_gossip_20 (fun r5 u9 H locs hq hW => ?_)
    obtain ⟨rfl, rfl⟩ := hq
    have hW : WD g A s _ _ [(h0, .inr (11, [.ref a0, .ref a1, .ref a2, .ref a3, .ref a4, .ref a5, .ref a6, .ref a7, .ref a8, .ref a9, .ref a10, .int (nI nv), .int (nI np), .int cc])), (a1, .inl (g.2.1 4, 10, .inr (.inr (.inr (.inr fA))))), (a6, .inr (3, [((F_X3_fewestCalls al0 w0 v pe lc gl kn gr L).2.1), .int ((F_X3_fewestCalls al0 w0 v pe lc gl kn gr L).2.2.1), .ref kk])), (kk, .inl (g.2.1 1, 5, .inl ((F_X3_fewestCalls al0 w0 v pe lc gl kn gr L).2.2.2.1))), (v, .inr (10, [.int (nI pe), .int (nI lc), .int de, .ref v3, .ref v4, .ref v5, .ref v6, .ref v7, .ref v8, .ref v9, .ref v10, .ref v11, .ref v12, .ref v13, .int ((F_X3_fewestCalls al0 w0 v pe lc gl kn gr L).2.2.2.2.2), .ref v15])), (v9, .inl (g.2.1 1, 72, .inl L)), (v15, .inl (g.2.1 1, 7, .inl ((F_X3_fewestCalls al0 w0 v pe lc gl kn gr L).2.2.2.2.1)))] := hW
    refine lv_icmp_lt (tgt := 28) (pc := 23) hx hb dX11_gossip_23 rfl (fun c6 => ?_) (fun c6 => ?_)
    · have hy7 := tN_in (n := 7) (by omega) (Int32.not_lt.mp q11) (Int32.lt_of_lt_of_le c6 (fw7 (al0 := al0) (w0 := w0) (v := v) (lc := lc) (kn := kn) (gr := gr) (L := L) hpe hgl))
      have hy72 := hy7.2
      rw [hy7.1] at hl
      refine lv_aload_n (pc := 28) hx hb dX11_gossip_28 rfl (lv_at hl 0 rfl) ?_
      refine r_getN X hW 4 ciX10 15 rfl (by decide) m_319 rfl rfl dX11_gossip_29 ?_
      refine lv_iload_n (pc := 32) hx hb dX11_gossip_32 rfl (lv_at hl 3 rfl) ?_
      refine r_iald X hW 6 rfl (vp_in_nI (by omega) (by decide)) dX11_gossip_33 ?_
      refine lv_topi (fun v8 ev8 => ?_)
      obtain rfl : v8 = ((F_X3_fewestCalls al0 w0 v pe lc gl kn gr L).2.2.2.2.1) (tN y) := ev8.trans (by rw [nI_clamp (by omega)])
      have hF : F_X11_gossip1 al0 w0 v pe lc gl kn gr L y = (((F_X3_fewestCalls al0 w0 v pe lc gl kn gr L).2.2.2.2.1) (tN y), ((F_X3_fewestCalls al0 w0 v pe lc gl kn gr L).2.1), (F_X3_fewestCalls al0 w0 v pe lc gl kn gr L).2.2.1, ((F_X3_fewestCalls al0 w0 v pe lc gl kn gr L).2.2.2.1), ((F_X3_fewestCalls al0 w0 v pe lc gl kn gr L).2.2.2.2.1), (F_X3_fewestCalls al0 w0 v pe lc gl kn gr L).2.2.2.2.2) := show F_X11_gossip1 al0 w0 v pe lc gl kn gr L y = (((F_X3_fewestCalls al0 w0 v pe lc gl kn gr L).2.2.2.2.1) (tN y), ((F_X3_fewestCalls al0 w0 v pe lc gl kn gr L).2.1), (F_X3_fewestCalls al0 w0 v pe lc gl kn gr L).2.2.1, ((F_X3_fewestCalls al0 w0 v pe lc gl kn gr L).2.2.2.1), ((F_X3_fewestCalls al0 w0 v pe lc gl kn gr L).2.2.2.2.1), (F_X3_fewestCalls al0 w0 v pe lc gl kn gr L).2.2.2.2.2) from by rw [F_X11_gossip1, if_neg c2, if_pos c6]
      exact e_i (u := [(h0, .inr (11, [.ref a0, .ref a1, .ref a2, .ref a3, .ref a4, .ref a5, .ref a6, .ref a7, .ref a8, .ref a9, .ref a10, .int (nI nv), .int (nI np), .int cc])), (a1, .inl (g.2.1 4, 10, .inr (.inr (.inr (.inr fA))))), (a6, .inr (3, [((F_X3_fewestCalls al0 w0 v pe lc gl kn gr L).2.1), .int ((F_X3_fewestCalls al0 w0 v pe lc gl kn gr L).2.2.1), .ref kk])), (kk, .inl (g.2.1 1, 5, .inl ((F_X3_fewestCalls al0 w0 v pe lc gl kn gr L).2.2.2.1))), (v, .inr (10, [.int (nI pe), .int (nI lc), .int de, .ref v3, .ref v4, .ref v5, .ref v6, .ref v7, .ref v8, .ref v9, .ref v10, .ref v11, .ref v12, .ref v13, .int ((F_X3_fewestCalls al0 w0 v pe lc gl kn gr L).2.2.2.2.2), .ref v15])), (v9, .inl (g.2.1 1, 72, .inl L)), (v15, .inl (g.2.1 1, 7, .inl ((F_X3_fewestCalls al0 w0 v pe lc gl kn gr L).2.2.2.2.1)))]) X hQ hr (hW) [0, 1, 2, 3, 4, 5, 6] rfl rfl (⟨(congrArg Prod.fst hF).symm, by rw [hF]⟩) ⟨Nat.le_of_ble_eq_true rfl, Nat.le_of_ble_eq_true rfl⟩ dX11_gossip_34
    · refine lv_iconst (v := (-1)) (pc := 26) hx hb dX11_gossip_26 (by decide) ?_
      have hF : F_X11_gossip1 al0 w0 v pe lc gl kn gr L y = ((-1 : Int32), ((F_X3_fewestCalls al0 w0 v pe lc gl kn gr L).2.1), (F_X3_fewestCalls al0 w0 v pe lc gl kn gr L).2.2.1, ((F_X3_fewestCalls al0 w0 v pe lc gl kn gr L).2.2.2.1), ((F_X3_fewestCalls al0 w0 v pe lc gl kn gr L).2.2.2.2.1), (F_X3_fewestCalls al0 w0 v pe lc gl kn gr L).2.2.2.2.2) := show F_X11_gossip1 al0 w0 v pe lc gl kn gr L y = ((-1 : Int32), ((F_X3_fewestCalls al0 w0 v pe lc gl kn gr L).2.1), (F_X3_fewestCalls al0 w0 v pe lc gl kn gr L).2.2.1, ((F_X3_fewestCalls al0 w0 v pe lc gl kn gr L).2.2.2.1), ((F_X3_fewestCalls al0 w0 v pe lc gl kn gr L).2.2.2.2.1), (F_X3_fewestCalls al0 w0 v pe lc gl kn gr L).2.2.2.2.2) from by rw [F_X11_gossip1, if_neg c2, if_neg c6]
      exact e_i (u := [(h0, .inr (11, [.ref a0, .ref a1, .ref a2, .ref a3, .ref a4, .ref a5, .ref a6, .ref a7, .ref a8, .ref a9, .ref a10, .int (nI nv), .int (nI np), .int cc])), (a1, .inl (g.2.1 4, 10, .inr (.inr (.inr (.inr fA))))), (a6, .inr (3, [((F_X3_fewestCalls al0 w0 v pe lc gl kn gr L).2.1), .int ((F_X3_fewestCalls al0 w0 v pe lc gl kn gr L).2.2.1), .ref kk])), (kk, .inl (g.2.1 1, 5, .inl ((F_X3_fewestCalls al0 w0 v pe lc gl kn gr L).2.2.2.1))), (v, .inr (10, [.int (nI pe), .int (nI lc), .int de, .ref v3, .ref v4, .ref v5, .ref v6, .ref v7, .ref v8, .ref v9, .ref v10, .ref v11, .ref v12, .ref v13, .int ((F_X3_fewestCalls al0 w0 v pe lc gl kn gr L).2.2.2.2.2), .ref v15])), (v9, .inl (g.2.1 1, 72, .inl L)), (v15, .inl (g.2.1 1, 7, .inl ((F_X3_fewestCalls al0 w0 v pe lc gl kn gr L).2.2.2.2.1)))]) X hQ hr (hW) [0, 1, 2, 3, 4, 5, 6] rfl rfl (⟨(congrArg Prod.fst hF).symm, by rw [hF]⟩) ⟨Nat.le_of_ble_eq_true rfl, Nat.le_of_ble_eq_true rfl⟩ dX11_gossip_27

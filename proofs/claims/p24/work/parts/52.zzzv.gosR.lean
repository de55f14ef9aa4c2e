theorem dX12_gossip_15 : decode cX12_gossip 15 = .ok (.aload_n 0, 1) := DX12_gossip _ _ _ rfl
theorem dX12_gossip_16 : decode cX12_gossip 16 = .ok (.iload_n 1, 1) := DX12_gossip _ _ _ rfl
theorem dX12_gossip_17 : decode cX12_gossip 17 = .ok (.invokevirtual 352, 3) := DX12_gossip _ _ _ rfl
theorem dX12_gossip_20 : decode cX12_gossip 20 = .ok (.istore_n 3, 1) := DX12_gossip _ _ _ rfl
theorem dX12_gossip_21 : decode cX12_gossip 21 = .ok (.iload_n 2, 1) := DX12_gossip _ _ _ rfl
theorem dX12_gossip_22 : decode cX12_gossip 22 = .ok (.iconst 0, 1) := DX12_gossip _ _ _ rfl
theorem dX12_gossip_23 : decode cX12_gossip 23 = .ok (.iload_n 3, 1) := DX12_gossip _ _ _ rfl
theorem dX12_gossip_24 : decode cX12_gossip 24 = .ok (.iconst 1, 1) := DX12_gossip _ _ _ rfl
theorem dX12_gossip_25 : decode cX12_gossip 25 = .ok (.isub, 1) := DX12_gossip _ _ _ rfl
theorem dX12_gossip_26 : decode cX12_gossip 26 = .ok (.invokestatic 198, 3) := DX12_gossip _ _ _ rfl
theorem dX12_gossip_29 : decode cX12_gossip 29 = .ok (.ifCond .eq 12, 3) := DX12_gossip _ _ _ rfl
theorem dX12_gossip_41 : decode cX12_gossip 41 = .ok (.iconst (-1), 1) := DX12_gossip _ _ _ rfl
theorem dX12_gossip_42 : decode cX12_gossip 42 = .ok (.ireturn, 1) := DX12_gossip _ _ _ rfl
theorem dX12_gossip_32 : decode cX12_gossip 32 = .ok (.aload_n 0, 1) := DX12_gossip _ _ _ rfl
theorem dX12_gossip_33 : decode cX12_gossip 33 = .ok (.getfield 107, 3) := DX12_gossip _ _ _ rfl
theorem dX12_gossip_36 : decode cX12_gossip 36 = .ok (.iload_n 2, 1) := DX12_gossip _ _ _ rfl
theorem dX12_gossip_37 : decode cX12_gossip 37 = .ok (.iaload, 1) := DX12_gossip _ _ _ rfl
theorem dX12_gossip_38 : decode cX12_gossip 38 = .ok (.goto 4, 3) := DX12_gossip _ _ _ rfl
def L3_X12_gossipss (rA : Nat → Int32) (rB : Nat → Int32) (i : Nat) (dn : Nat) (j2 : Nat) (fb46_2 : Nat → Int32) (j3 : Nat) (fb46_3 : Nat → Int32) : (Nat → Int32) := if nI j3 = nI (tN (rA (12 * i + j2))) then ((upd fb46_3 (7 * dn + 7 + j3) ((fb46_2 (7 * dn + (tN (rA (12 * i + j2))))) ||| (fb46_2 (7 * dn + (tN (rB (12 * i + j2)))))))) else (if nI j3 = nI (tN (rB (12 * i + j2))) then ((upd fb46_3 (7 * dn + 7 + j3) ((fb46_2 (7 * dn + (tN (rA (12 * i + j2))))) ||| (fb46_2 (7 * dn + (tN (rB (12 * i + j2)))))))) else ((upd fb46_3 (7 * dn + 7 + j3) (fb46_3 (7 * dn + j3)))))
def L3_X12_gossips (rA : Nat → Int32) (rB : Nat → Int32) (i : Nat) (dn : Nat) (j2 : Nat) (fb46_2 : Nat → Int32) (i0_ : Nat → Int32) : Nat → (Nat → Int32)
  | 0 => (i0_)
  | k_ + 1 => L3_X12_gossipss rA rB i dn j2 fb46_2 k_ (L3_X12_gossips rA rB i dn j2 fb46_2 i0_ k_)
def L4_X12_gossipss (rA : Nat → Int32) (rB : Nat → Int32) (i : Nat) (dn : Nat) (j2 : Nat) (fb46_2 : Nat → Int32) (j4 : Nat) (fb46_4 : Nat → Int32) : (Nat → Int32) := if nI j4 = nI (tN (rA (12 * i + j2))) then ((upd fb46_4 (7 * dn + 7 + j4) ((fb46_2 (7 * dn + (tN (rA (12 * i + j2))))) ||| (fb46_2 (7 * dn + (tN (rB (12 * i + j2)))))))) else (if nI j4 = nI (tN (rB (12 * i + j2))) then ((upd fb46_4 (7 * dn + 7 + j4) ((fb46_2 (7 * dn + (tN (rA (12 * i + j2))))) ||| (fb46_2 (7 * dn + (tN (rB (12 * i + j2)))))))) else ((upd fb46_4 (7 * dn + 7 + j4) (fb46_4 (7 * dn + j4)))))
def L4_X12_gossips (rA : Nat → Int32) (rB : Nat → Int32) (i : Nat) (dn : Nat) (j2 : Nat) (fb46_2 : Nat → Int32) (i0_ : Nat → Int32) : Nat → (Nat → Int32)
  | 0 => (i0_)
  | k_ + 1 => L4_X12_gossipss rA rB i dn j2 fb46_2 k_ (L4_X12_gossips rA rB i dn j2 fb46_2 i0_ k_)
def L2_X12_gossips (rA : Nat → Int32) (rB : Nat → Int32) (lW : Nat → Int32) (i : Nat) (lc : Nat) (pe : Nat) (dn : Nat) (R : GOF) : Nat → Nat → (Nat → Int32) → (Nat → Int32) → Int32 × (Nat → Int32) × (Nat → Int32)
  | 0, _, _, _ => (0, fun _ => 0, fun _ => 0)
  | m_ + 1, j2, fb46_2, fb47_2 => if nI lc ≤ nI j2 then (((0 : Int32), fb46_2, fb47_2)) else (if lW j2 = 0 then (L2_X12_gossips rA rB lW i lc pe dn R m_ (j2 + 1) fb46_2 fb47_2) else (if fb46_2 (7 * dn + (tN (rA (12 * i + j2)))) = (fb46_2 (7 * dn + (tN (rA (12 * i + j2))))) ||| (fb46_2 (7 * dn + (tN (rB (12 * i + j2))))) then (if fb46_2 (7 * dn + (tN (rB (12 * i + j2)))) = (fb46_2 (7 * dn + (tN (rA (12 * i + j2))))) ||| (fb46_2 (7 * dn + (tN (rB (12 * i + j2))))) then (L2_X12_gossips rA rB lW i lc pe dn R m_ (j2 + 1) fb46_2 fb47_2) else (if (R (L4_X12_gossips rA rB i dn j2 fb46_2 fb46_2 pe) (upd fb47_2 dn (nI j2))).1 = 0 then (L2_X12_gossips rA rB lW i lc pe dn R m_ (j2 + 1) ((R (L4_X12_gossips rA rB i dn j2 fb46_2 fb46_2 pe) (upd fb47_2 dn (nI j2))).2.1) ((R (L4_X12_gossips rA rB i dn j2 fb46_2 fb46_2 pe) (upd fb47_2 dn (nI j2))).2.2)) else (((1 : Int32), (R (L4_X12_gossips rA rB i dn j2 fb46_2 fb46_2 pe) (upd fb47_2 dn (nI j2))).2.1, (R (L4_X12_gossips rA rB i dn j2 fb46_2 fb46_2 pe) (upd fb47_2 dn (nI j2))).2.2)))) else (if (R (L3_X12_gossips rA rB i dn j2 fb46_2 fb46_2 pe) (upd fb47_2 dn (nI j2))).1 = 0 then (L2_X12_gossips rA rB lW i lc pe dn R m_ (j2 + 1) ((R (L3_X12_gossips rA rB i dn j2 fb46_2 fb46_2 pe) (upd fb47_2 dn (nI j2))).2.1) ((R (L3_X12_gossips rA rB i dn j2 fb46_2 fb46_2 pe) (upd fb47_2 dn (nI j2))).2.2)) else (((1 : Int32), (R (L3_X12_gossips rA rB i dn j2 fb46_2 fb46_2 pe) (upd fb47_2 dn (nI j2))).2.1, (R (L3_X12_gossips rA rB i dn j2 fb46_2 fb46_2 pe) (upd fb47_2 dn (nI j2))).2.2)))))
def L1_X12_gossipss (rP : Nat → Int32) (tH : Nat → Int32) (i : Nat) (dn : Nat) (j1 : Nat) (x5_1 : Int32) : Int32 := if x5_1 = 0 then ((0 : Int32)) else (if tH (7 * dn + j1) = F_X12_everybody rP i then ((1 : Int32)) else ((0 : Int32)))
def L1_X12_gossips (rP : Nat → Int32) (tH : Nat → Int32) (i : Nat) (dn : Nat) (i0_ : Int32) : Nat → Int32
  | 0 => (i0_)
  | k_ + 1 => L1_X12_gossipss rP tH i dn k_ (L1_X12_gossips rP tH i dn i0_ k_)
theorem L1_X12_gossips_01 {rP tH : Nat → Int32} {i dn : Nat} : ∀ k : Nat, L1_X12_gossips rP tH i dn 1 k = 0 ∨ L1_X12_gossips rP tH i dn 1 k = 1
  | 0 => Or.inr rfl
  | k + 1 => by
    rw [L1_X12_gossips, L1_X12_gossipss]
    by_cases c1 : L1_X12_gossips rP tH i dn 1 k = 0
    · rw [if_pos c1]; exact Or.inl rfl
    · rw [if_neg c1]
      by_cases c2 : tH (7 * dn + k) = F_X12_everybody rP i
      · rw [if_pos c2]; exact Or.inr rfl
      · rw [if_neg c2]; exact Or.inl rfl
theorem L1_X12_gossips_z {rP tH : Nat → Int32} {i dn k : Nat} : narrow .boolean (.int (L1_X12_gossips rP tH i dn 1 k)) = .int (L1_X12_gossips rP tH i dn 1 k) := nz_of (L1_X12_gossips_01 k)
def F_X12_gossips (rP : Nat → Int32) (rA : Nat → Int32) (rB : Nat → Int32) (tH : Nat → Int32) (gR : Nat → Int32) (lW : Nat → Int32) (i : Nat) (lc : Nat) (pe : Nat) (dn : Nat) (le : Nat) (R : GOF) : Int32 × (Nat → Int32) × (Nat → Int32) := if (L1_X12_gossips rP tH i dn (1 : Int32) pe) = 0 then (if nI le = 0 then (((L1_X12_gossips rP tH i dn (1 : Int32) pe), tH, gR)) else (L2_X12_gossips rA rB lW i lc pe dn R (lc + 1) 0 tH gR)) else (((L1_X12_gossips rP tH i dn (1 : Int32) pe), tH, gR))
set_option maxHeartbeats 4000000 in
set_option maxRecDepth 100000 in
theorem K_X12_gossips (l : Launch) (g : GG) (h0 : Nat) (vs : List Value) (b6 : Nat) (rP : Nat → Int32) (b7 : Nat) (rL : Nat → Int32) (b12 : Nat) (rA : Nat → Int32) (b13 : Nat) (rB : Nat → Int32) (b46 : Nat) (tH : Nat → Int32) (b47 : Nat) (gR : Nat → Int32) (b48 : Nat) (lW : Nat → Int32) (i : Nat) (lc : Nat) (pe : Nat) (dn : Nat) (le : Nat) (R : GOF) (dd : Nat) (hdd : 6 ≤ dd) (hlen : vs.length = 64) (h6_ : vs[6]? = some (.ref b6)) (h7_ : vs[7]? = some (.ref b7)) (h12_ : vs[12]? = some (.ref b12)) (h13_ : vs[13]? = some (.ref b13)) (h46_ : vs[46]? = some (.ref b46)) (h47_ : vs[47]? = some (.ref b47)) (h48_ : vs[48]? = some (.ref b48)) (hi : i < 11) (hlc : lc ≤ 12) (hL : rL i = nI lc) (hpe : pe ≤ 5) (hP : rP i = nI pe) (hA : ∀ l : Nat, l < lc → rA (12 * i + l) = nI (tN (rA (12 * i + l))) ∧ tN (rA (12 * i + l)) < pe) (hB : ∀ l : Nat, l < lc → rB (12 * i + l) = nI (tN (rB (12 * i + l))) ∧ tN (rB (12 * i + l)) < pe) (hdl : dn + le ≤ 8) (hrec : 0 < le → ∀ (Th Gr : Nat → Int32), MetI l g yX12_gossips cX12_gossips 10 (some .boolean) dd 0 0 [.ref h0, .int (nI i), .int (nI (dn + 1)), .int (nI (le - 1))] [(h0, .inr (12, vs)), (b6, .inl (g.2.1 1, 11, .inl rP)), (b7, .inl (g.2.1 1, 11, .inl rL)), (b12, .inl (g.2.1 1, 132, .inl rA)), (b13, .inl (g.2.1 1, 132, .inl rB)), (b46, .inl (g.2.1 1, 112, .inl Th)), (b47, .inl (g.2.1 1, 16, .inl Gr)), (b48, .inl (g.2.1 3, 12, .inl lW))] (fun r u => r = (R Th Gr).1 ∧ u = [(h0, .inr (12, vs)), (b6, .inl (g.2.1 1, 11, .inl rP)), (b7, .inl (g.2.1 1, 11, .inl rL)), (b12, .inl (g.2.1 1, 132, .inl rA)), (b13, .inl (g.2.1 1, 132, .inl rB)), (b46, .inl (g.2.1 1, 112, .inl ((R Th Gr).2.1))), (b47, .inl (g.2.1 1, 16, .inl ((R Th Gr).2.2))), (b48, .inl (g.2.1 3, 12, .inl lW))])) : MetI l g yX12_gossips cX12_gossips 10 (some .boolean) (dd + 1) 0 0 [.ref h0, .int (nI i), .int (nI dn), .int (nI le)] [(h0, .inr (12, vs)), (b6, .inl (g.2.1 1, 11, .inl rP)), (b7, .inl (g.2.1 1, 11, .inl rL)), (b12, .inl (g.2.1 1, 132, .inl rA)), (b13, .inl (g.2.1 1, 132, .inl rB)), (b46, .inl (g.2.1 1, 112, .inl tH)), (b47, .inl (g.2.1 1, 16, .inl gR)), (b48, .inl (g.2.1 3, 12, .inl lW))] (fun r u => r = (F_X12_gossips rP rA rB tH gR lW i lc pe dn le R).1 ∧ u = [(h0, .inr (12, vs)), (b6, .inl (g.2.1 1, 11, .inl rP)), (b7, .inl (g.2.1 1, 11, .inl rL)), (b12, .inl (g.2.1 1, 132, .inl rA)), (b13, .inl (g.2.1 1, 132, .inl rB)), (b46, .inl (g.2.1 1, 112, .inl ((F_X12_gossips rP rA rB tH gR lW i lc pe dn le R).2.1))), (b47, .inl (g.2.1 1, 16, .inl ((F_X12_gossips rP rA rB tH gR lW i lc pe dn le R).2.2))), (b48, .inl (g.2.1 3, 12, .inl lW))]) := by
  refine MetI.of (own := RX12) rfl (by decide) (Nat.le_of_ble_eq_true rfl) ?_
  intro p e s m below meth c A ls args Q hQ X hr hin hW hl
  have hx := X.1
  have hb := X.2.1
  have hl : lv_has ls 10 [(0, .ref h0), (1, .int (nI i)), (2, .int (nI dn)), (3, .int (nI le))] := hl
  refine lv_bipush (v := 7) (pc := 0) hx hb dX12_gossips_0 (by decide) ?_
  refine lv_iload_n (pc := 2) hx hb dX12_gossips_2 rfl (lv_at hl 2 rfl) ?_
  refine lv_imul (pc := 3) hx hb dX12_gossips_3 ?_
  refine lv_topi (fun v1 ev1 => ?_)
  obtain rfl : v1 = nI (7 * dn) := ev1.trans (pk_mul 7 dn)
  refine lv_istore (lv' := [(4, .int (nI (7 * dn))), (0, .ref h0), (1, .int (nI i)), (2, .int (nI dn)), (3, .int (nI le))]) (pc := 4) hx hb dX12_gossips_4 hl (by decide) rfl (fun ls hl => ?_)
  refine lv_iconst (v := 1) (pc := 6) hx hb dX12_gossips_6 (by decide) ?_
  refine lv_istore (lv' := [(5, .int 1), (4, .int (nI (7 * dn))), (0, .ref h0), (1, .int (nI i)), (2, .int (nI dn)), (3, .int (nI le))]) (pc := 7) hx hb dX12_gossips_7 hl (by decide) rfl (fun ls hl => ?_)
  refine lv_iconst (v := 0) (pc := 9) hx hb dX12_gossips_9 (by decide) ?_
  refine lv_istore (lv' := [(6, .int 0), (5, .int 1), (4, .int (nI (7 * dn))), (0, .ref h0), (1, .int (nI i)), (2, .int (nI dn)), (3, .int (nI le))]) (pc := 10) hx hb dX12_gossips_10 hl (by decide) rfl (fun ls hl => ?_)
  have loop1 : ∀ (fu1 : Nat) (j1 : Nat) (x5_1 : Int32), (pe < fu1 + j1) → (j1 ≤ pe) → (x5_1 = L1_X12_gossips rP tH i dn (1 : Int32) j1) → ∀ (H : Heap) (locs : List Loc) (ls : Array Slot), WD g A s H locs [(h0, .inr (12, vs)), (b6, .inl (g.2.1 1, 11, .inl rP)), (b7, .inl (g.2.1 1, 11, .inl rL)), (b12, .inl (g.2.1 1, 132, .inl rA)), (b13, .inl (g.2.1 1, 132, .inl rB)), (b46, .inl (g.2.1 1, 112, .inl tH)), (b47, .inl (g.2.1 1, 16, .inl gR)), (b48, .inl (g.2.1 3, 12, .inl lW))] → lv_has ls 10 [(6, .int (nI j1)), (5, .int x5_1), (4, .int (nI (7 * dn))), (0, .ref h0), (1, .int (nI i)), (2, .int (nI dn)), (3, .int (nI le))] → W p l e (RM (dd + 1) 0 0) s m args below meth c H locs 0 0 Q (F0 m 12 ls []) := by
    intro fu1
    induction fu1 with
    | zero =>
      intro j1 x5_1 hm1 hj1 hst1
      exact absurd hm1 (by omega)
    | succ fu1 ih1 =>
      intro j1 x5_1 hm1 hj1 hst1 H locs ls hW hl
      refine lv_iload (pc := 12) hx hb dX12_gossips_12 (lv_at hl 0 rfl) ?_
      refine lv_aload_n (pc := 14) hx hb dX12_gossips_14 rfl (lv_at hl 3 rfl) ?_
      refine r_get X hW 0 ciX12 6 rfl (by decide) m_1237 rfl h6_ dX12_gossips_15 ?_
      refine lv_iload_n (pc := 18) hx hb dX12_gossips_18 rfl (lv_at hl 4 rfl) ?_
      refine r_iald X hW 1 rfl (vp_in_nI (by omega) (by decide)) dX12_gossips_19 ?_
      refine lv_topi (fun v2 ev2 => ?_)
      obtain rfl : v2 = rP i := ev2.trans (by rw [nI_clamp (by omega)])
      rw [hP]
      refine lv_icmp_ge (tgt := 59) (pc := 20) hx hb dX12_gossips_20 rfl (fun c3 => ?_) (fun c3 => ?_)
      · have h4 : pe ≤ j1 := (nI_leI (a := pe) (b := j1) (by omega) (by omega)).mp c3
        have hN1 : j1 = pe := by omega
        rw [hN1] at hst1
        subst hst1
        have hW : WD g A s _ _ [(h0, .inr (12, vs)), (b6, .inl (g.2.1 1, 11, .inl rP)), (b7, .inl (g.2.1 1, 11, .inl rL)), (b12, .inl (g.2.1 1, 132, .inl rA)), (b13, .inl (g.2.1 1, 132, .inl rB)), (b46, .inl (g.2.1 1, 112, .inl tH)), (b47, .inl (g.2.1 1, 16, .inl gR)), (b48, .inl (g.2.1 3, 12, .inl lW))] := hW
        refine lv_iload (pc := 59) hx hb dX12_gossips_59 (lv_at hl 1 rfl) ?_
        refine lv_if_ne (tgt := 68) (pc := 61) hx hb dX12_gossips_61 rfl (fun c5 => ?_) (fun c5 => ?_)
        · refine lv_iload (pc := 68) hx hb dX12_gossips_68 (lv_at hl 1 rfl) ?_
          have hF : F_X12_gossips rP rA rB tH gR lW i lc pe dn le R = ((L1_X12_gossips rP tH i dn (1 : Int32) pe), tH, gR) := show F_X12_gossips rP rA rB tH gR lW i lc pe dn le R = ((L1_X12_gossips rP tH i dn (1 : Int32) pe), tH, gR) from by rw [F_X12_gossips, if_neg c5]
          exact e_z (u := [(h0, .inr (12, vs)), (b6, .inl (g.2.1 1, 11, .inl rP)), (b7, .inl (g.2.1 1, 11, .inl rL)), (b12, .inl (g.2.1 1, 132, .inl rA)), (b13, .inl (g.2.1 1, 132, .inl rB)), (b46, .inl (g.2.1 1, 112, .inl tH)), (b47, .inl (g.2.1 1, 16, .inl gR)), (b48, .inl (g.2.1 3, 12, .inl lW))]) X hQ hr (hW) (L1_X12_gossips_z ..) [0, 1, 2, 3, 4, 5, 6, 7] rfl rfl (⟨(congrArg Prod.fst hF).symm, by rw [hF]⟩) ⟨Nat.le_of_ble_eq_true rfl, Nat.le_of_ble_eq_true rfl⟩ dX12_gossips_70
        · refine lv_iload_n (pc := 64) hx hb dX12_gossips_64 rfl (lv_at hl 6 rfl) ?_
          refine lv_if_ne (tgt := 71) (pc := 65) hx hb dX12_gossips_65 rfl (fun c8 => ?_) (fun c8 => ?_)
          · have h9 : ¬ (le = 0) := fun q => c8 ((nI_eq (a := le) (b := 0) (by omega) (by omega)).mpr q)
            refine lv_iconst (v := 0) (pc := 71) hx hb dX12_gossips_71 (by decide) ?_
            refine lv_istore (lv' := [(6, .int 0), (5, .int (L1_X12_gossips rP tH i dn (1 : Int32) pe)), (4, .int (nI (7 * dn))), (0, .ref h0), (1, .int (nI i)), (2, .int (nI dn)), (3, .int (nI le))]) (pc := 72) hx hb dX12_gossips_72 hl (by decide) rfl (fun ls hl => ?_)
            have loop2 : ∀ (fu2 : Nat) (j2 : Nat) (fb46_2 : Nat → Int32) (fb47_2 : Nat → Int32), (lc < fu2 + j2) → (j2 ≤ lc) → (L2_X12_gossips rA rB lW i lc pe dn R fu2 j2 fb46_2 fb47_2 = F_X12_gossips rP rA rB tH gR lW i lc pe dn le R) → ∀ (H : Heap) (locs : List Loc) (ls : Array Slot), WD g A s H locs [(h0, .inr (12, vs)), (b6, .inl (g.2.1 1, 11, .inl rP)), (b7, .inl (g.2.1 1, 11, .inl rL)), (b12, .inl (g.2.1 1, 132, .inl rA)), (b13, .inl (g.2.1 1, 132, .inl rB)), (b46, .inl (g.2.1 1, 112, .inl fb46_2)), (b47, .inl (g.2.1 1, 16, .inl fb47_2)), (b48, .inl (g.2.1 3, 12, .inl lW))] → lv_has ls 10 [(6, .int (nI j2)), (5, .int (L1_X12_gossips rP tH i dn (1 : Int32) pe)), (4, .int (nI (7 * dn))), (0, .ref h0), (1, .int (nI i)), (2, .int (nI dn)), (3, .int (nI le))] → W p l e (RM (dd + 1) 0 0) s m args below meth c H locs 0 0 Q (F0 m 74 ls []) := by
              intro fu2
              induction fu2 with
              | zero =>
                intro j2 fb46_2 fb47_2 hm2 hj2 hst2
                exact absurd hm2 (by omega)
              | succ fu2 ih2 =>
                intro j2 fb46_2 fb47_2 hm2 hj2 hst2 H locs ls hW hl
                refine lv_iload (pc := 74) hx hb dX12_gossips_74 (lv_at hl 0 rfl) ?_
                refine lv_aload_n (pc := 76) hx hb dX12_gossips_76 rfl (lv_at hl 3 rfl) ?_
                refine r_get X hW 0 ciX12 7 rfl (by decide) m_1238 rfl h7_ dX12_gossips_77 ?_
                refine lv_iload_n (pc := 80) hx hb dX12_gossips_80 rfl (lv_at hl 4 rfl) ?_
                refine r_iald X hW 2 rfl (vp_in_nI (by omega) (by decide)) dX12_gossips_81 ?_
                refine lv_topi (fun v10 ev10 => ?_)
                obtain rfl : v10 = rL i := ev10.trans (by rw [nI_clamp (by omega)])
                rw [hL]
                refine lv_icmp_ge (tgt := 282) (pc := 82) hx hb dX12_gossips_82 rfl (fun c11 => ?_) (fun c11 => ?_)
                · have h12 : lc ≤ j2 := (nI_leI (a := lc) (b := j2) (by omega) (by omega)).mp c11
                  refine lv_iconst (v := 0) (pc := 282) hx hb dX12_gossips_282 (by decide) ?_
                  have hF : F_X12_gossips rP rA rB tH gR lW i lc pe dn le R = ((0 : Int32), fb46_2, fb47_2) := hst2.symm.trans (show L2_X12_gossips rA rB lW i lc pe dn R (fu2 + 1) j2 fb46_2 fb47_2 = ((0 : Int32), fb46_2, fb47_2) from by rw [L2_X12_gossips, if_pos c11])
                  exact e_z (u := [(h0, .inr (12, vs)), (b6, .inl (g.2.1 1, 11, .inl rP)), (b7, .inl (g.2.1 1, 11, .inl rL)), (b12, .inl (g.2.1 1, 132, .inl rA)), (b13, .inl (g.2.1 1, 132, .inl rB)), (b46, .inl (g.2.1 1, 112, .inl fb46_2)), (b47, .inl (g.2.1 1, 16, .inl fb47_2)), (b48, .inl (g.2.1 3, 12, .inl lW))]) X hQ hr (hW) rfl [0, 1, 2, 3, 4, 5, 6, 7] rfl rfl (⟨(congrArg Prod.fst hF).symm, by rw [hF]⟩) ⟨Nat.le_of_ble_eq_true rfl, Nat.le_of_ble_eq_true rfl⟩ dX12_gossips_283
                · have h13 : ¬ (lc ≤ j2) := fun q => c11 ((nI_leI (a := lc) (b := j2) (by omega) (by omega)).mpr q)
                  refine lv_bipush (v := 12) (pc := 85) hx hb dX12_gossips_85 (by decide) ?_
                  refine lv_iload_n (pc := 87) hx hb dX12_gossips_87 rfl (lv_at hl 4 rfl) ?_
                  refine lv_imul (pc := 88) hx hb dX12_gossips_88 ?_
                  refine lv_topi (fun v14 ev14 => ?_)
                  obtain rfl : v14 = nI (12 * i) := ev14.trans (pk_mul 12 i)
                  refine lv_iload (pc := 89) hx hb dX12_gossips_89 (lv_at hl 0 rfl) ?_
                  refine lv_iadd (pc := 91) hx hb dX12_gossips_91 ?_
                  refine lv_topi (fun v15 ev15 => ?_)
                  obtain rfl : v15 = nI (12 * i + j2) := ev15.trans (nI_add _ _)
                  refine lv_istore (lv' := [(7, .int (nI (12 * i + j2))), (6, .int (nI j2)), (5, .int (L1_X12_gossips rP tH i dn (1 : Int32) pe)), (4, .int (nI (7 * dn))), (0, .ref h0), (1, .int (nI i)), (2, .int (nI dn)), (3, .int (nI le))]) (pc := 92) hx hb dX12_gossips_92 hl (by decide) rfl (fun ls hl => ?_)
                  refine lv_aload_n (pc := 94) hx hb dX12_gossips_94 rfl (lv_at hl 4 rfl) ?_
                  refine r_get X hW 0 ciX12 46 rfl (by decide) m_1273 rfl h46_ dX12_gossips_95 ?_
                  refine lv_iload (pc := 98) hx hb dX12_gossips_98 (lv_at hl 3 rfl) ?_
                  refine lv_aload_n (pc := 100) hx hb dX12_gossips_100 rfl (lv_at hl 4 rfl) ?_
                  refine r_get X hW 0 ciX12 12 rfl (by decide) m_1243 rfl h12_ dX12_gossips_101 ?_
                  refine lv_iload (pc := 104) hx hb dX12_gossips_104 (lv_at hl 0 rfl) ?_
                  refine r_iald X hW 3 rfl (vp_in_nI (by omega) (by decide)) dX12_gossips_106 ?_
                  refine lv_topi (fun v16 ev16 => ?_)
                  obtain rfl : v16 = rA (12 * i + j2) := ev16.trans (by rw [nI_clamp (by omega)])
                  have hAe := hA j2 (by omega)
                  have hAe2 := hAe.2
                  rw [hAe.1]
                  refine lv_iadd (pc := 107) hx hb dX12_gossips_107 ?_
                  refine lv_topi (fun v17 ev17 => ?_)
                  obtain rfl : v17 = nI (7 * dn + (tN (rA (12 * i + j2)))) := ev17.trans (nI_add _ _)
                  refine r_iald X hW 5 rfl (vp_in_nI (by omega) (by decide)) dX12_gossips_108 ?_
                  refine lv_topi (fun v18 ev18 => ?_)
                  obtain rfl : v18 = fb46_2 (7 * dn + (tN (rA (12 * i + j2)))) := ev18.trans (by rw [nI_clamp (by omega)])
                  refine lv_aload_n (pc := 109) hx hb dX12_gossips_109 rfl (lv_at hl 4 rfl) ?_
                  refine r_get X hW 0 ciX12 46 rfl (by decide) m_1273 rfl h46_ dX12_gossips_110 ?_
                  refine lv_iload (pc := 113) hx hb dX12_gossips_113 (lv_at hl 3 rfl) ?_
                  refine lv_aload_n (pc := 115) hx hb dX12_gossips_115 rfl (lv_at hl 4 rfl) ?_
                  refine r_get X hW 0 ciX12 13 rfl (by decide) m_1244 rfl h13_ dX12_gossips_116 ?_
                  refine lv_iload (pc := 119) hx hb dX12_gossips_119 (lv_at hl 0 rfl) ?_
                  refine r_iald X hW 4 rfl (vp_in_nI (by omega) (by decide)) dX12_gossips_121 ?_
                  refine lv_topi (fun v19 ev19 => ?_)
                  obtain rfl : v19 = rB (12 * i + j2) := ev19.trans (by rw [nI_clamp (by omega)])
                  have hBe := hB j2 (by omega)
                  have hBe2 := hBe.2
                  rw [hBe.1]
                  refine lv_iadd (pc := 122) hx hb dX12_gossips_122 ?_
                  refine lv_topi (fun v20 ev20 => ?_)
                  obtain rfl : v20 = nI (7 * dn + (tN (rB (12 * i + j2)))) := ev20.trans (nI_add _ _)
                  refine r_iald X hW 5 rfl (vp_in_nI (by omega) (by decide)) dX12_gossips_123 ?_
                  refine lv_topi (fun v21 ev21 => ?_)
                  obtain rfl : v21 = fb46_2 (7 * dn + (tN (rB (12 * i + j2)))) := ev21.trans (by rw [nI_clamp (by omega)])
                  refine lv_ior (pc := 124) hx hb dX12_gossips_124 ?_
                  refine lv_istore (lv' := [(8, .int ((fb46_2 (7 * dn + (tN (rA (12 * i + j2))))) ||| (fb46_2 (7 * dn + (tN (rB (12 * i + j2))))))), (7, .int (nI (12 * i + j2))), (6, .int (nI j2)), (5, .int (L1_X12_gossips rP tH i dn (1 : Int32) pe)), (4, .int (nI (7 * dn))), (0, .ref h0), (1, .int (nI i)), (2, .int (nI dn)), (3, .int (nI le))]) (pc := 125) hx hb dX12_gossips_125 hl (by decide) rfl (fun ls hl => ?_)
                  refine lv_aload_n (pc := 127) hx hb dX12_gossips_127 rfl (lv_at hl 5 rfl) ?_
                  refine r_get X hW 0 ciX12 48 rfl (by decide) m_1275 rfl h48_ dX12_gossips_128 ?_
                  refine lv_iload (pc := 131) hx hb dX12_gossips_131 (lv_at hl 2 rfl) ?_
                  refine r_zald X hW 7 rfl (vp_in_nI (by omega) (by decide)) dX12_gossips_133 ?_
                  refine lv_topi (fun v22 ev22 => ?_)
                  obtain rfl : v22 = lW j2 := ev22.trans (by rw [nI_clamp (by omega)])
                  refine lv_if_eq (tgt := 276) (pc := 134) hx hb dX12_gossips_134 rfl (fun c23 => ?_) (fun c23 => ?_)
                  · refine lv_iinc (v := nI (j2 + 1)) (lv' := [(6, .int (nI (j2 + 1))), (8, .int ((fb46_2 (7 * dn + (tN (rA (12 * i + j2))))) ||| (fb46_2 (7 * dn + (tN (rB (12 * i + j2))))))), (7, .int (nI (12 * i + j2))), (5, .int (L1_X12_gossips rP tH i dn (1 : Int32) pe)), (4, .int (nI (7 * dn))), (0, .ref h0), (1, .int (nI i)), (2, .int (nI dn)), (3, .int (nI le))]) (pc := 276) hx hb dX12_gossips_276 hl (k := 2) rfl (nI_add j2 1) (by decide) rfl (fun ls hl => ?_)
                    refine lv_goto (tgt := 74) (pc := 279) hx hb dX12_gossips_279 rfl ?_
                    exact ih2 (j2 + 1) fb46_2 fb47_2 (by omega) (by omega) ((show L2_X12_gossips rA rB lW i lc pe dn R (fu2 + 1) j2 fb46_2 fb47_2 = L2_X12_gossips rA rB lW i lc pe dn R fu2 (j2 + 1) fb46_2 fb47_2 from by rw [L2_X12_gossips, if_neg c11, if_pos c23]).symm.trans hst2) _ _ _ hW (lv_sub hl [0, 3, 4, 5, 6, 7, 8] rfl)
                  · refine lv_aload_n (pc := 137) hx hb dX12_gossips_137 rfl (lv_at hl 5 rfl) ?_
                    refine r_get X hW 0 ciX12 46 rfl (by decide) m_1273 rfl h46_ dX12_gossips_138 ?_
                    refine lv_iload (pc := 141) hx hb dX12_gossips_141 (lv_at hl 4 rfl) ?_
                    refine lv_aload_n (pc := 143) hx hb dX12_gossips_143 rfl (lv_at hl 5 rfl) ?_
                    refine r_get X hW 0 ciX12 12 rfl (by decide) m_1243 rfl h12_ dX12_gossips_144 ?_
                    refine lv_iload (pc := 147) hx hb dX12_gossips_147 (lv_at hl 1 rfl) ?_
                    refine r_iald X hW 3 rfl (vp_in_nI (by omega) (by decide)) dX12_gossips_149 ?_
                    refine lv_topi (fun v26 ev26 => ?_)
                    obtain rfl : v26 = rA (12 * i + j2) := ev26.trans (by rw [nI_clamp (by omega)])
                    have hAe := hA j2 (by omega)
                    have hAe2 := hAe.2
                    rw [hAe.1]
                    refine lv_iadd (pc := 150) hx hb dX12_gossips_150 ?_
                    refine lv_topi (fun v27 ev27 => ?_)
                    obtain rfl : v27 = nI (7 * dn + (tN (rA (12 * i + j2)))) := ev27.trans (nI_add _ _)
                    refine r_iald X hW 5 rfl (vp_in_nI (by omega) (by decide)) dX12_gossips_151 ?_
                    refine lv_topi (fun v28 ev28 => ?_)
                    obtain rfl : v28 = fb46_2 (7 * dn + (tN (rA (12 * i + j2)))) := ev28.trans (by rw [nI_clamp (by omega)])
                    refine lv_iload (pc := 152) hx hb dX12_gossips_152 (lv_at hl 0 rfl) ?_
                    refine lv_icmp_ne (tgt := 180) (pc := 154) hx hb dX12_gossips_154 rfl (fun c29 => ?_) (fun c29 => ?_)
                    · refine lv_iconst (v := 0) (pc := 180) hx hb dX12_gossips_180 (by decide) ?_
                      refine lv_istore (lv' := [(9, .int 0), (8, .int ((fb46_2 (7 * dn + (tN (rA (12 * i + j2))))) ||| (fb46_2 (7 * dn + (tN (rB (12 * i + j2))))))), (7, .int (nI (12 * i + j2))), (6, .int (nI j2)), (5, .int (L1_X12_gossips rP tH i dn (1 : Int32) pe)), (4, .int (nI (7 * dn))), (0, .ref h0), (1, .int (nI i)), (2, .int (nI dn)), (3, .int (nI le))]) (pc := 181) hx hb dX12_gossips_181 hl (by decide) rfl (fun ls hl => ?_)
                      have loop3 : ∀ (fu3 : Nat) (j3 : Nat) (fb46_3 : Nat → Int32), (pe < fu3 + j3) → (j3 ≤ pe) → (fb46_3 = L3_X12_gossips rA rB i dn j2 fb46_2 fb46_2 j3) → ∀ (H : Heap) (locs : List Loc) (ls : Array Slot), WD g A s H locs [(h0, .inr (12, vs)), (b6, .inl (g.2.1 1, 11, .inl rP)), (b7, .inl (g.2.1 1, 11, .inl rL)), (b12, .inl (g.2.1 1, 132, .inl rA)), (b13, .inl (g.2.1 1, 132, .inl rB)), (b46, .inl (g.2.1 1, 112, .inl fb46_3)), (b47, .inl (g.2.1 1, 16, .inl fb47_2)), (b48, .inl (g.2.1 3, 12, .inl lW))] → lv_has ls 10 [(9, .int (nI j3)), (8, .int ((fb46_2 (7 * dn + (tN (rA (12 * i + j2))))) ||| (fb46_2 (7 * dn + (tN (rB (12 * i + j2))))))), (7, .int (nI (12 * i + j2))), (6, .int (nI j2)), (5, .int (L1_X12_gossips rP tH i dn (1 : Int32) pe)), (4, .int (nI (7 * dn))), (0, .ref h0), (1, .int (nI i)), (2, .int (nI dn)), (3, .int (nI le))] → W p l e (RM (dd + 1) 0 0) s m args below meth c H locs 0 0 Q (F0 m 183 ls []) := by
                        intro fu3
                        induction fu3 with
                        | zero =>
                          intro j3 fb46_3 hm3 hj3 hst3
                          exact absurd hm3 (by omega)
                        | succ fu3 ih3 =>
                          intro j3 fb46_3 hm3 hj3 hst3 H locs ls hW hl
                          refine lv_iload (pc := 183) hx hb dX12_gossips_183 (lv_at hl 0 rfl) ?_
                          refine lv_aload_n (pc := 185) hx hb dX12_gossips_185 rfl (lv_at hl 6 rfl) ?_
                          refine r_get X hW 0 ciX12 6 rfl (by decide) m_1237 rfl h6_ dX12_gossips_186 ?_
                          refine lv_iload_n (pc := 189) hx hb dX12_gossips_189 rfl (lv_at hl 7 rfl) ?_
                          refine r_iald X hW 1 rfl (vp_in_nI (by omega) (by decide)) dX12_gossips_190 ?_
                          refine lv_topi (fun v31 ev31 => ?_)
                          obtain rfl : v31 = rP i := ev31.trans (by rw [nI_clamp (by omega)])
                          rw [hP]
                          refine lv_icmp_ge (tgt := 252) (pc := 191) hx hb dX12_gossips_191 rfl (fun c32 => ?_) (fun c32 => ?_)
                          · have h33 : pe ≤ j3 := (nI_leI (a := pe) (b := j3) (by omega) (by omega)).mp c32
                            have hN3 : j3 = pe := by omega
                            rw [hN3] at hst3
                            subst hst3
                            have hW : WD g A s _ _ [(h0, .inr (12, vs)), (b6, .inl (g.2.1 1, 11, .inl rP)), (b7, .inl (g.2.1 1, 11, .inl rL)), (b12, .inl (g.2.1 1, 132, .inl rA)), (b13, .inl (g.2.1 1, 132, .inl rB)), (b46, .inl (g.2.1 1, 112, .inl (L3_X12_gossips rA rB i dn j2 fb46_2 fb46_2 pe))), (b47, .inl (g.2.1 1, 16, .inl fb47_2)), (b48, .inl (g.2.1 3, 12, .inl lW))] := hW
                            refine lv_aload_n (pc := 252) hx hb dX12_gossips_252 rfl (lv_at hl 6 rfl) ?_
                            refine r_get X hW 0 ciX12 47 rfl (by decide) m_1274 rfl h47_ dX12_gossips_253 ?_
                            refine lv_iload_n (pc := 256) hx hb dX12_gossips_256 rfl (lv_at hl 8 rfl) ?_
                            refine lv_iload (pc := 257) hx hb dX12_gossips_257 (lv_at hl 3 rfl) ?_
                            refine r_iast (ws' := [(h0, .inr (12, vs)), (b6, .inl (g.2.1 1, 11, .inl rP)), (b7, .inl (g.2.1 1, 11, .inl rL)), (b12, .inl (g.2.1 1, 132, .inl rA)), (b13, .inl (g.2.1 1, 132, .inl rB)), (b46, .inl (g.2.1 1, 112, .inl (L3_X12_gossips rA rB i dn j2 fb46_2 fb46_2 pe))), (b47, .inl (g.2.1 1, 16, .inl (upd fb47_2 dn (nI j2)))), (b48, .inl (g.2.1 3, 12, .inl lW))]) X hW 6 rfl (vp_in_nI (by omega) (by decide)) (f' := (upd fb47_2 dn (nI j2))) (by rw [nI_clamp (by omega)]) rfl dX12_gossips_259 (fun H locs hW => ?_)
                            refine lv_aload_n (pc := 260) hx hb dX12_gossips_260 rfl (lv_at hl 6 rfl) ?_
                            refine lv_iload_n (pc := 261) hx hb dX12_gossips_261 rfl (lv_at hl 7 rfl) ?_
                            refine lv_iload_n (pc := 262) hx hb dX12_gossips_262 rfl (lv_at hl 8 rfl) ?_
                            refine lv_iconst (v := 1) (pc := 263) hx hb dX12_gossips_263 (by decide) ?_
                            refine lv_iadd (pc := 264) hx hb dX12_gossips_264 ?_
                            refine lv_topi (fun v34 ev34 => ?_)
                            obtain rfl : v34 = nI (dn + 1) := ev34.trans (nI_add dn 1)
                            refine lv_iload_n (pc := 265) hx hb dX12_gossips_265 rfl (lv_at hl 9 rfl) ?_
                            refine lv_iconst (v := 1) (pc := 266) hx hb dX12_gossips_266 (by decide) ?_
                            refine lv_isub (pc := 267) hx hb dX12_gossips_267 ?_
                            refine lv_topi (fun v35 ev35 => ?_)
                            obtain rfl : v35 = nI (le - 1) := ev35.trans (pk_sub (a := le) (b := 1) (by omega))
                            refine c_Vi (pc := 268) (As := [.int (nI i), .int (nI (dn + 1)), .int (nI (le - 1))]) (rest := []) (wr := []) X hW 0 ciX12 rfl (hrec (by omega) (L3_X12_gossips rA rB i dn j2 fb46_2 fb46_2 pe) (upd fb47_2 dn (nI j2))) vX12_346 [0, 1, 2, 3, 4, 5, 6, 7] [] rfl rfl rfl rfl rfl rfl hl.1 rfl (Nat.le_of_ble_eq_true rfl) ⟨by show _ ≤ dd + 1; omega, by show _ ≤ 40 * (dd + 1); omega⟩ ⟨Nat.le_of_ble_eq_true rfl, Nat.le_of_ble_eq_true rfl⟩ dX12_gossips_268 (fun r36 u9 H locs hq hW => ?_)
                            obtain ⟨rfl, rfl⟩ := hq
                            have hW : WD g A s _ _ [(h0, .inr (12, vs)), (b6, .inl (g.2.1 1, 11, .inl rP)), (b7, .inl (g.2.1 1, 11, .inl rL)), (b12, .inl (g.2.1 1, 132, .inl rA)), (b13, .inl (g.2.1 1, 132, .inl rB)), (b46, .inl (g.2.1 1, 112, .inl ((R (L3_X12_gossips rA rB i dn j2 fb46_2 fb46_2 pe) (upd fb47_2 dn (nI j2))).2.1))), (b47, .inl (g.2.1 1, 16, .inl ((R (L3_X12_gossips rA rB i dn j2 fb46_2 fb46_2 pe) (upd fb47_2 dn (nI j2))).2.2))), (b48, .inl (g.2.1 3, 12, .inl lW))] := hW
                            refine lv_if_eq (tgt := 276) (pc := 271) hx hb dX12_gossips_271 rfl (fun c37 => ?_) (fun c37 => ?_)
                            · refine lv_iinc (v := nI (j2 + 1)) (lv' := [(6, .int (nI (j2 + 1))), (9, .int (nI j3)), (8, .int ((fb46_2 (7 * dn + (tN (rA (12 * i + j2))))) ||| (fb46_2 (7 * dn + (tN (rB (12 * i + j2))))))), (7, .int (nI (12 * i + j2))), (5, .int (L1_X12_gossips rP tH i dn (1 : Int32) pe)), (4, .int (nI (7 * dn))), (0, .ref h0), (1, .int (nI i)), (2, .int (nI dn)), (3, .int (nI le))]) (pc := 276) hx hb dX12_gossips_276 hl (k := 3) rfl (nI_add j2 1) (by decide) rfl (fun ls hl => ?_)
                              refine lv_goto (tgt := 74) (pc := 279) hx hb dX12_gossips_279 rfl ?_
                              exact ih2 (j2 + 1) ((R (L3_X12_gossips rA rB i dn j2 fb46_2 fb46_2 pe) (upd fb47_2 dn (nI j2))).2.1) ((R (L3_X12_gossips rA rB i dn j2 fb46_2 fb46_2 pe) (upd fb47_2 dn (nI j2))).2.2) (by omega) (by omega) ((show L2_X12_gossips rA rB lW i lc pe dn R (fu2 + 1) j2 fb46_2 fb47_2 = L2_X12_gossips rA rB lW i lc pe dn R fu2 (j2 + 1) ((R (L3_X12_gossips rA rB i dn j2 fb46_2 fb46_2 pe) (upd fb47_2 dn (nI j2))).2.1) ((R (L3_X12_gossips rA rB i dn j2 fb46_2 fb46_2 pe) (upd fb47_2 dn (nI j2))).2.2) from by rw [L2_X12_gossips, if_neg c11, if_neg c23, if_neg c29, if_pos c37]).symm.trans hst2) _ _ _ hW (lv_sub hl [0, 4, 5, 6, 7, 8, 9] rfl)
                            · refine lv_iconst (v := 1) (pc := 274) hx hb dX12_gossips_274 (by decide) ?_
                              have hF : F_X12_gossips rP rA rB tH gR lW i lc pe dn le R = ((1 : Int32), (R (L3_X12_gossips rA rB i dn j2 fb46_2 fb46_2 pe) (upd fb47_2 dn (nI j2))).2.1, (R (L3_X12_gossips rA rB i dn j2 fb46_2 fb46_2 pe) (upd fb47_2 dn (nI j2))).2.2) := hst2.symm.trans (show L2_X12_gossips rA rB lW i lc pe dn R (fu2 + 1) j2 fb46_2 fb47_2 = ((1 : Int32), (R (L3_X12_gossips rA rB i dn j2 fb46_2 fb46_2 pe) (upd fb47_2 dn (nI j2))).2.1, (R (L3_X12_gossips rA rB i dn j2 fb46_2 fb46_2 pe) (upd fb47_2 dn (nI j2))).2.2) from by rw [L2_X12_gossips, if_neg c11, if_neg c23, if_neg c29, if_neg c37])
                              exact e_z (u := [(h0, .inr (12, vs)), (b6, .inl (g.2.1 1, 11, .inl rP)), (b7, .inl (g.2.1 1, 11, .inl rL)), (b12, .inl (g.2.1 1, 132, .inl rA)), (b13, .inl (g.2.1 1, 132, .inl rB)), (b46, .inl (g.2.1 1, 112, .inl ((R (L3_X12_gossips rA rB i dn j2 fb46_2 fb46_2 pe) (upd fb47_2 dn (nI j2))).2.1))), (b47, .inl (g.2.1 1, 16, .inl ((R (L3_X12_gossips rA rB i dn j2 fb46_2 fb46_2 pe) (upd fb47_2 dn (nI j2))).2.2))), (b48, .inl (g.2.1 3, 12, .inl lW))]) X hQ hr (hW) rfl [0, 1, 2, 3, 4, 5, 6, 7] rfl rfl (⟨(congrArg Prod.fst hF).symm, by rw [hF]⟩) ⟨Nat.le_of_ble_eq_true rfl, Nat.le_of_ble_eq_true rfl⟩ dX12_gossips_275
                          · have h40 : ¬ (pe ≤ j3) := fun q => c32 ((nI_leI (a := pe) (b := j3) (by omega) (by omega)).mpr q)
                            refine lv_aload_n (pc := 194) hx hb dX12_gossips_194 rfl (lv_at hl 6 rfl) ?_
                            refine r_get X hW 0 ciX12 46 rfl (by decide) m_1273 rfl h46_ dX12_gossips_195 ?_
                            refine lv_iload (pc := 198) hx hb dX12_gossips_198 (lv_at hl 5 rfl) ?_
                            refine lv_bipush (v := 7) (pc := 200) hx hb dX12_gossips_200 (by decide) ?_
                            refine lv_iadd (pc := 202) hx hb dX12_gossips_202 ?_
                            refine lv_topi (fun v41 ev41 => ?_)
                            obtain rfl : v41 = nI (7 * dn + 7) := ev41.trans (nI_add (7 * dn) 7)
                            refine lv_iload (pc := 203) hx hb dX12_gossips_203 (lv_at hl 0 rfl) ?_
                            refine lv_iadd (pc := 205) hx hb dX12_gossips_205 ?_
                            refine lv_topi (fun v42 ev42 => ?_)
                            obtain rfl : v42 = nI (7 * dn + 7 + j3) := ev42.trans (nI_add _ _)
                            refine lv_iload (pc := 206) hx hb dX12_gossips_206 (lv_at hl 0 rfl) ?_
                            refine lv_aload_n (pc := 208) hx hb dX12_gossips_208 rfl (lv_at hl 6 rfl) ?_
                            refine r_get X hW 0 ciX12 12 rfl (by decide) m_1243 rfl h12_ dX12_gossips_209 ?_
                            refine lv_iload (pc := 212) hx hb dX12_gossips_212 (lv_at hl 2 rfl) ?_
                            refine r_iald X hW 3 rfl (vp_in_nI (by omega) (by decide)) dX12_gossips_214 ?_
                            refine lv_topi (fun v43 ev43 => ?_)
                            obtain rfl : v43 = rA (12 * i + j2) := ev43.trans (by rw [nI_clamp (by omega)])
                            have hAe := hA j2 (by omega)
                            have hAe2 := hAe.2
                            rw [hAe.1]
                            refine lv_icmp_eq (tgt := 230) (pc := 215) hx hb dX12_gossips_215 rfl (fun c44 => ?_) (fun c44 => ?_)
                            · have h45 : j3 = (tN (rA (12 * i + j2))) := (nI_eq (a := j3) (b := (tN (rA (12 * i + j2)))) (by omega) (by omega)).mp c44
                              refine lv_iload (pc := 230) hx hb dX12_gossips_230 (lv_at hl 1 rfl) ?_
                              refine lv_goto (tgt := 245) (pc := 232) hx hb dX12_gossips_232 rfl ?_
                              refine r_iast (ws' := [(h0, .inr (12, vs)), (b6, .inl (g.2.1 1, 11, .inl rP)), (b7, .inl (g.2.1 1, 11, .inl rL)), (b12, .inl (g.2.1 1, 132, .inl rA)), (b13, .inl (g.2.1 1, 132, .inl rB)), (b46, .inl (g.2.1 1, 112, .inl (upd fb46_3 (7 * dn + 7 + j3) ((fb46_2 (7 * dn + (tN (rA (12 * i + j2))))) ||| (fb46_2 (7 * dn + (tN (rB (12 * i + j2))))))))), (b47, .inl (g.2.1 1, 16, .inl fb47_2)), (b48, .inl (g.2.1 3, 12, .inl lW))]) X hW 5 rfl (vp_in_nI (by omega) (by decide)) (f' := (upd fb46_3 (7 * dn + 7 + j3) ((fb46_2 (7 * dn + (tN (rA (12 * i + j2))))) ||| (fb46_2 (7 * dn + (tN (rB (12 * i + j2)))))))) (by rw [nI_clamp (by omega)]) rfl dX12_gossips_245 (fun H locs hW => ?_)
                              refine lv_iinc (v := nI (j3 + 1)) (lv' := [(9, .int (nI (j3 + 1))), (8, .int ((fb46_2 (7 * dn + (tN (rA (12 * i + j2))))) ||| (fb46_2 (7 * dn + (tN (rB (12 * i + j2))))))), (7, .int (nI (12 * i + j2))), (6, .int (nI j2)), (5, .int (L1_X12_gossips rP tH i dn (1 : Int32) pe)), (4, .int (nI (7 * dn))), (0, .ref h0), (1, .int (nI i)), (2, .int (nI dn)), (3, .int (nI le))]) (pc := 246) hx hb dX12_gossips_246 hl (k := 0) rfl (nI_add j3 1) (by decide) rfl (fun ls hl => ?_)
                              refine lv_goto (tgt := 183) (pc := 249) hx hb dX12_gossips_249 rfl ?_
                              exact ih3 (j3 + 1) (upd fb46_3 (7 * dn + 7 + j3) ((fb46_2 (7 * dn + (tN (rA (12 * i + j2))))) ||| (fb46_2 (7 * dn + (tN (rB (12 * i + j2))))))) (by omega) (by omega) (by rw [L3_X12_gossips, ← hst3]; exact (show L3_X12_gossipss rA rB i dn j2 fb46_2 j3 fb46_3 = (upd fb46_3 (7 * dn + 7 + j3) ((fb46_2 (7 * dn + (tN (rA (12 * i + j2))))) ||| (fb46_2 (7 * dn + (tN (rB (12 * i + j2))))))) from by rw [L3_X12_gossipss, if_pos c44]).symm) _ _ _ hW (lv_sub hl [0, 1, 2, 3, 4, 5, 6, 7, 8, 9] rfl)
                            · have h46 : ¬ (j3 = (tN (rA (12 * i + j2)))) := fun q => c44 ((nI_eq (a := j3) (b := (tN (rA (12 * i + j2)))) (by omega) (by omega)).mpr q)
                              refine lv_iload (pc := 218) hx hb dX12_gossips_218 (lv_at hl 0 rfl) ?_
                              refine lv_aload_n (pc := 220) hx hb dX12_gossips_220 rfl (lv_at hl 6 rfl) ?_
                              refine r_get X hW 0 ciX12 13 rfl (by decide) m_1244 rfl h13_ dX12_gossips_221 ?_
                              refine lv_iload (pc := 224) hx hb dX12_gossips_224 (lv_at hl 2 rfl) ?_
                              refine r_iald X hW 4 rfl (vp_in_nI (by omega) (by decide)) dX12_gossips_226 ?_
                              refine lv_topi (fun v47 ev47 => ?_)
                              obtain rfl : v47 = rB (12 * i + j2) := ev47.trans (by rw [nI_clamp (by omega)])
                              have hBe := hB j2 (by omega)
                              have hBe2 := hBe.2
                              rw [hBe.1]
                              refine lv_icmp_ne (tgt := 235) (pc := 227) hx hb dX12_gossips_227 rfl (fun c48 => ?_) (fun c48 => ?_)
                              · have h49 : ¬ (j3 = (tN (rB (12 * i + j2)))) := fun q => c48 ((nI_eq (a := j3) (b := (tN (rB (12 * i + j2)))) (by omega) (by omega)).mpr q)
                                refine lv_aload_n (pc := 235) hx hb dX12_gossips_235 rfl (lv_at hl 6 rfl) ?_
                                refine r_get X hW 0 ciX12 46 rfl (by decide) m_1273 rfl h46_ dX12_gossips_236 ?_
                                refine lv_iload (pc := 239) hx hb dX12_gossips_239 (lv_at hl 5 rfl) ?_
                                refine lv_iload (pc := 241) hx hb dX12_gossips_241 (lv_at hl 0 rfl) ?_
                                refine lv_iadd (pc := 243) hx hb dX12_gossips_243 ?_
                                refine lv_topi (fun v50 ev50 => ?_)
                                obtain rfl : v50 = nI (7 * dn + j3) := ev50.trans (nI_add _ _)
                                refine r_iald X hW 5 rfl (vp_in_nI (by omega) (by decide)) dX12_gossips_244 ?_
                                refine lv_topi (fun v51 ev51 => ?_)
                                obtain rfl : v51 = fb46_3 (7 * dn + j3) := ev51.trans (by rw [nI_clamp (by omega)])
                                refine r_iast (ws' := [(h0, .inr (12, vs)), (b6, .inl (g.2.1 1, 11, .inl rP)), (b7, .inl (g.2.1 1, 11, .inl rL)), (b12, .inl (g.2.1 1, 132, .inl rA)), (b13, .inl (g.2.1 1, 132, .inl rB)), (b46, .inl (g.2.1 1, 112, .inl (upd fb46_3 (7 * dn + 7 + j3) (fb46_3 (7 * dn + j3))))), (b47, .inl (g.2.1 1, 16, .inl fb47_2)), (b48, .inl (g.2.1 3, 12, .inl lW))]) X hW 5 rfl (vp_in_nI (by omega) (by decide)) (f' := (upd fb46_3 (7 * dn + 7 + j3) (fb46_3 (7 * dn + j3)))) (by rw [nI_clamp (by omega)]) rfl dX12_gossips_245 (fun H locs hW => ?_)
                                refine lv_iinc (v := nI (j3 + 1)) (lv' := [(9, .int (nI (j3 + 1))), (8, .int ((fb46_2 (7 * dn + (tN (rA (12 * i + j2))))) ||| (fb46_2 (7 * dn + (tN (rB (12 * i + j2))))))), (7, .int (nI (12 * i + j2))), (6, .int (nI j2)), (5, .int (L1_X12_gossips rP tH i dn (1 : Int32) pe)), (4, .int (nI (7 * dn))), (0, .ref h0), (1, .int (nI i)), (2, .int (nI dn)), (3, .int (nI le))]) (pc := 246) hx hb dX12_gossips_246 hl (k := 0) rfl (nI_add j3 1) (by decide) rfl (fun ls hl => ?_)
                                refine lv_goto (tgt := 183) (pc := 249) hx hb dX12_gossips_249 rfl ?_
                                exact ih3 (j3 + 1) (upd fb46_3 (7 * dn + 7 + j3) (fb46_3 (7 * dn + j3))) (by omega) (by omega) (by rw [L3_X12_gossips, ← hst3]; exact (show L3_X12_gossipss rA rB i dn j2 fb46_2 j3 fb46_3 = (upd fb46_3 (7 * dn + 7 + j3) (fb46_3 (7 * dn + j3))) from by rw [L3_X12_gossipss, if_neg c44, if_neg c48]).symm) _ _ _ hW (lv_sub hl [0, 1, 2, 3, 4, 5, 6, 7, 8, 9] rfl)
                              · have h52 : j3 = (tN (rB (12 * i + j2))) := (nI_eq (a := j3) (b := (tN (rB (12 * i + j2)))) (by omega) (by omega)).mp c48
                                refine lv_iload (pc := 230) hx hb dX12_gossips_230 (lv_at hl 1 rfl) ?_
                                refine lv_goto (tgt := 245) (pc := 232) hx hb dX12_gossips_232 rfl ?_
                                refine r_iast (ws' := [(h0, .inr (12, vs)), (b6, .inl (g.2.1 1, 11, .inl rP)), (b7, .inl (g.2.1 1, 11, .inl rL)), (b12, .inl (g.2.1 1, 132, .inl rA)), (b13, .inl (g.2.1 1, 132, .inl rB)), (b46, .inl (g.2.1 1, 112, .inl (upd fb46_3 (7 * dn + 7 + j3) ((fb46_2 (7 * dn + (tN (rA (12 * i + j2))))) ||| (fb46_2 (7 * dn + (tN (rB (12 * i + j2))))))))), (b47, .inl (g.2.1 1, 16, .inl fb47_2)), (b48, .inl (g.2.1 3, 12, .inl lW))]) X hW 5 rfl (vp_in_nI (by omega) (by decide)) (f' := (upd fb46_3 (7 * dn + 7 + j3) ((fb46_2 (7 * dn + (tN (rA (12 * i + j2))))) ||| (fb46_2 (7 * dn + (tN (rB (12 * i + j2)))))))) (by rw [nI_clamp (by omega)]) rfl dX12_gossips_245 (fun H locs hW => ?_)
                                refine lv_iinc (v := nI (j3 + 1)) (lv' := [(9, .int (nI (j3 + 1))), (8, .int ((fb46_2 (7 * dn + (tN (rA (12 * i + j2))))) ||| (fb46_2 (7 * dn + (tN (rB (12 * i + j2))))))), (7, .int (nI (12 * i + j2))), (6, .int (nI j2)), (5, .int (L1_X12_gossips rP tH i dn (1 : Int32) pe)), (4, .int (nI (7 * dn))), (0, .ref h0), (1, .int (nI i)), (2, .int (nI dn)), (3, .int (nI le))]) (pc := 246) hx hb dX12_gossips_246 hl (k := 0) rfl (nI_add j3 1) (by decide) rfl (fun ls hl => ?_)
                                refine lv_goto (tgt := 183) (pc := 249) hx hb dX12_gossips_249 rfl ?_
                                exact ih3 (j3 + 1) (upd fb46_3 (7 * dn + 7 + j3) ((fb46_2 (7 * dn + (tN (rA (12 * i + j2))))) ||| (fb46_2 (7 * dn + (tN (rB (12 * i + j2))))))) (by omega) (by omega) (by rw [L3_X12_gossips, ← hst3]; exact (show L3_X12_gossipss rA rB i dn j2 fb46_2 j3 fb46_3 = (upd fb46_3 (7 * dn + 7 + j3) ((fb46_2 (7 * dn + (tN (rA (12 * i + j2))))) ||| (fb46_2 (7 * dn + (tN (rB (12 * i + j2))))))) from by rw [L3_X12_gossipss, if_neg c44, if_pos c48]).symm) _ _ _ hW (lv_sub hl [0, 1, 2, 3, 4, 5, 6, 7, 8, 9] rfl)
                      exact loop3 (pe + 1) 0 fb46_2 (by omega) (by omega) rfl _ _ _ hW (lv_sub hl [0, 1, 2, 3, 4, 5, 6, 7, 8, 9] rfl)
                    · refine lv_aload_n (pc := 157) hx hb dX12_gossips_157 rfl (lv_at hl 5 rfl) ?_
                      refine r_get X hW 0 ciX12 46 rfl (by decide) m_1273 rfl h46_ dX12_gossips_158 ?_
                      refine lv_iload (pc := 161) hx hb dX12_gossips_161 (lv_at hl 4 rfl) ?_
                      refine lv_aload_n (pc := 163) hx hb dX12_gossips_163 rfl (lv_at hl 5 rfl) ?_
                      refine r_get X hW 0 ciX12 13 rfl (by decide) m_1244 rfl h13_ dX12_gossips_164 ?_
                      refine lv_iload (pc := 167) hx hb dX12_gossips_167 (lv_at hl 1 rfl) ?_
                      refine r_iald X hW 4 rfl (vp_in_nI (by omega) (by decide)) dX12_gossips_169 ?_
                      refine lv_topi (fun v54 ev54 => ?_)
                      obtain rfl : v54 = rB (12 * i + j2) := ev54.trans (by rw [nI_clamp (by omega)])
                      have hBe := hB j2 (by omega)
                      have hBe2 := hBe.2
                      rw [hBe.1]
                      refine lv_iadd (pc := 170) hx hb dX12_gossips_170 ?_
                      refine lv_topi (fun v55 ev55 => ?_)
                      obtain rfl : v55 = nI (7 * dn + (tN (rB (12 * i + j2)))) := ev55.trans (nI_add _ _)
                      refine r_iald X hW 5 rfl (vp_in_nI (by omega) (by decide)) dX12_gossips_171 ?_
                      refine lv_topi (fun v56 ev56 => ?_)
                      obtain rfl : v56 = fb46_2 (7 * dn + (tN (rB (12 * i + j2)))) := ev56.trans (by rw [nI_clamp (by omega)])
                      refine lv_iload (pc := 172) hx hb dX12_gossips_172 (lv_at hl 0 rfl) ?_
                      refine lv_icmp_ne (tgt := 180) (pc := 174) hx hb dX12_gossips_174 rfl (fun c57 => ?_) (fun c57 => ?_)
                      · refine lv_iconst (v := 0) (pc := 180) hx hb dX12_gossips_180 (by decide) ?_
                        refine lv_istore (lv' := [(9, .int 0), (8, .int ((fb46_2 (7 * dn + (tN (rA (12 * i + j2))))) ||| (fb46_2 (7 * dn + (tN (rB (12 * i + j2))))))), (7, .int (nI (12 * i + j2))), (6, .int (nI j2)), (5, .int (L1_X12_gossips rP tH i dn (1 : Int32) pe)), (4, .int (nI (7 * dn))), (0, .ref h0), (1, .int (nI i)), (2, .int (nI dn)), (3, .int (nI le))]) (pc := 181) hx hb dX12_gossips_181 hl (by decide) rfl (fun ls hl => ?_)
                        have loop4 : ∀ (fu4 : Nat) (j4 : Nat) (fb46_4 : Nat → Int32), (pe < fu4 + j4) → (j4 ≤ pe) → (fb46_4 = L4_X12_gossips rA rB i dn j2 fb46_2 fb46_2 j4) → ∀ (H : Heap) (locs : List Loc) (ls : Array Slot), WD g A s H locs [(h0, .inr (12, vs)), (b6, .inl (g.2.1 1, 11, .inl rP)), (b7, .inl (g.2.1 1, 11, .inl rL)), (b12, .inl (g.2.1 1, 132, .inl rA)), (b13, .inl (g.2.1 1, 132, .inl rB)), (b46, .inl (g.2.1 1, 112, .inl fb46_4)), (b47, .inl (g.2.1 1, 16, .inl fb47_2)), (b48, .inl (g.2.1 3, 12, .inl lW))] → lv_has ls 10 [(9, .int (nI j4)), (8, .int ((fb46_2 (7 * dn + (tN (rA (12 * i + j2))))) ||| (fb46_2 (7 * dn + (tN (rB (12 * i + j2))))))), (7, .int (nI (12 * i + j2))), (6, .int (nI j2)), (5, .int (L1_X12_gossips rP tH i dn (1 : Int32) pe)), (4, .int (nI (7 * dn))), (0, .ref h0), (1, .int (nI i)), (2, .int (nI dn)), (3, .int (nI le))] → W p l e (RM (dd + 1) 0 0) s m args below meth c H locs 0 0 Q (F0 m 183 ls []) := by
                          intro fu4
                          induction fu4 with
                          | zero =>
                            intro j4 fb46_4 hm4 hj4 hst4
                            exact absurd hm4 (by omega)
                          | succ fu4 ih4 =>
                            intro j4 fb46_4 hm4 hj4 hst4 H locs ls hW hl
                            refine lv_iload (pc := 183) hx hb dX12_gossips_183 (lv_at hl 0 rfl) ?_
                            refine lv_aload_n (pc := 185) hx hb dX12_gossips_185 rfl (lv_at hl 6 rfl) ?_
                            refine r_get X hW 0 ciX12 6 rfl (by decide) m_1237 rfl h6_ dX12_gossips_186 ?_
                            refine lv_iload_n (pc := 189) hx hb dX12_gossips_189 rfl (lv_at hl 7 rfl) ?_
                            refine r_iald X hW 1 rfl (vp_in_nI (by omega) (by decide)) dX12_gossips_190 ?_
                            refine lv_topi (fun v59 ev59 => ?_)
                            obtain rfl : v59 = rP i := ev59.trans (by rw [nI_clamp (by omega)])
                            rw [hP]
                            refine lv_icmp_ge (tgt := 252) (pc := 191) hx hb dX12_gossips_191 rfl (fun c60 => ?_) (fun c60 => ?_)
                            · have h61 : pe ≤ j4 := (nI_leI (a := pe) (b := j4) (by omega) (by omega)).mp c60
                              have hN4 : j4 = pe := by omega
                              rw [hN4] at hst4
                              subst hst4
                              have hW : WD g A s _ _ [(h0, .inr (12, vs)), (b6, .inl (g.2.1 1, 11, .inl rP)), (b7, .inl (g.2.1 1, 11, .inl rL)), (b12, .inl (g.2.1 1, 132, .inl rA)), (b13, .inl (g.2.1 1, 132, .inl rB)), (b46, .inl (g.2.1 1, 112, .inl (L4_X12_gossips rA rB i dn j2 fb46_2 fb46_2 pe))), (b47, .inl (g.2.1 1, 16, .inl fb47_2)), (b48, .inl (g.2.1 3, 12, .inl lW))] := hW
                              refine lv_aload_n (pc := 252) hx hb dX12_gossips_252 rfl (lv_at hl 6 rfl) ?_
                              refine r_get X hW 0 ciX12 47 rfl (by decide) m_1274 rfl h47_ dX12_gossips_253 ?_
                              refine lv_iload_n (pc := 256) hx hb dX12_gossips_256 rfl (lv_at hl 8 rfl) ?_
                              refine lv_iload (pc := 257) hx hb dX12_gossips_257 (lv_at hl 3 rfl) ?_
                              refine r_iast (ws' := [(h0, .inr (12, vs)), (b6, .inl (g.2.1 1, 11, .inl rP)), (b7, .inl (g.2.1 1, 11, .inl rL)), (b12, .inl (g.2.1 1, 132, .inl rA)), (b13, .inl (g.2.1 1, 132, .inl rB)), (b46, .inl (g.2.1 1, 112, .inl (L4_X12_gossips rA rB i dn j2 fb46_2 fb46_2 pe))), (b47, .inl (g.2.1 1, 16, .inl (upd fb47_2 dn (nI j2)))), (b48, .inl (g.2.1 3, 12, .inl lW))]) X hW 6 rfl (vp_in_nI (by omega) (by decide)) (f' := (upd fb47_2 dn (nI j2))) (by rw [nI_clamp (by omega)]) rfl dX12_gossips_259 (fun H locs hW => ?_)
                              refine lv_aload_n (pc := 260) hx hb dX12_gossips_260 rfl (lv_at hl 6 rfl) ?_
                              refine lv_iload_n (pc := 261) hx hb dX12_gossips_261 rfl (lv_at hl 7 rfl) ?_
                              refine lv_iload_n (pc := 262) hx hb dX12_gossips_262 rfl (lv_at hl 8 rfl) ?_
                              refine lv_iconst (v := 1) (pc := 263) hx hb dX12_gossips_263 (by decide) ?_
                              refine lv_iadd (pc := 264) hx hb dX12_gossips_264 ?_
                              refine lv_topi (fun v62 ev62 => ?_)
                              obtain rfl : v62 = nI (dn + 1) := ev62.trans (nI_add dn 1)
                              refine lv_iload_n (pc := 265) hx hb dX12_gossips_265 rfl (lv_at hl 9 rfl) ?_
                              refine lv_iconst (v := 1) (pc := 266) hx hb dX12_gossips_266 (by decide) ?_
                              refine lv_isub (pc := 267) hx hb dX12_gossips_267 ?_
                              refine lv_topi (fun v63 ev63 => ?_)
                              obtain rfl : v63 = nI (le - 1) := ev63.trans (pk_sub (a := le) (b := 1) (by omega))
                              refine c_Vi (pc := 268) (As := [.int (nI i), .int (nI (dn + 1)), .int (nI (le - 1))]) (rest := []) (wr := []) X hW 0 ciX12 rfl (hrec (by omega) (L4_X12_gossips rA rB i dn j2 fb46_2 fb46_2 pe) (upd fb47_2 dn (nI j2))) vX12_346 [0, 1, 2, 3, 4, 5, 6, 7] [] rfl rfl rfl rfl rfl rfl hl.1 rfl (Nat.le_of_ble_eq_true rfl) ⟨by show _ ≤ dd + 1; omega, by show _ ≤ 40 * (dd + 1); omega⟩ ⟨Nat.le_of_ble_eq_true rfl, Nat.le_of_ble_eq_true rfl⟩ dX12_gossips_268 (fun r64 u9 H locs hq hW => ?_)
                              obtain ⟨rfl, rfl⟩ := hq
                              have hW : WD g A s _ _ [(h0, .inr (12, vs)), (b6, .inl (g.2.1 1, 11, .inl rP)), (b7, .inl (g.2.1 1, 11, .inl rL)), (b12, .inl (g.2.1 1, 132, .inl rA)), (b13, .inl (g.2.1 1, 132, .inl rB)), (b46, .inl (g.2.1 1, 112, .inl ((R (L4_X12_gossips rA rB i dn j2 fb46_2 fb46_2 pe) (upd fb47_2 dn (nI j2))).2.1))), (b47, .inl (g.2.1 1, 16, .inl ((R (L4_X12_gossips rA rB i dn j2 fb46_2 fb46_2 pe) (upd fb47_2 dn (nI j2))).2.2))), (b48, .inl (g.2.1 3, 12, .inl lW))] := hW
                              refine lv_if_eq (tgt := 276) (pc := 271) hx hb dX12_gossips_271 rfl (fun c65 => ?_) (fun c65 => ?_)
                              · refine lv_iinc (v := nI (j2 + 1)) (lv' := [(6, .int (nI (j2 + 1))), (9, .int (nI j4)), (8, .int ((fb46_2 (7 * dn + (tN (rA (12 * i + j2))))) ||| (fb46_2 (7 * dn + (tN (rB (12 * i + j2))))))), (7, .int (nI (12 * i + j2))), (5, .int (L1_X12_gossips rP tH i dn (1 : Int32) pe)), (4, .int (nI (7 * dn))), (0, .ref h0), (1, .int (nI i)), (2, .int (nI dn)), (3, .int (nI le))]) (pc := 276) hx hb dX12_gossips_276 hl (k := 3) rfl (nI_add j2 1) (by decide) rfl (fun ls hl => ?_)
                                refine lv_goto (tgt := 74) (pc := 279) hx hb dX12_gossips_279 rfl ?_
                                exact ih2 (j2 + 1) ((R (L4_X12_gossips rA rB i dn j2 fb46_2 fb46_2 pe) (upd fb47_2 dn (nI j2))).2.1) ((R (L4_X12_gossips rA rB i dn j2 fb46_2 fb46_2 pe) (upd fb47_2 dn (nI j2))).2.2) (by omega) (by omega) ((show L2_X12_gossips rA rB lW i lc pe dn R (fu2 + 1) j2 fb46_2 fb47_2 = L2_X12_gossips rA rB lW i lc pe dn R fu2 (j2 + 1) ((R (L4_X12_gossips rA rB i dn j2 fb46_2 fb46_2 pe) (upd fb47_2 dn (nI j2))).2.1) ((R (L4_X12_gossips rA rB i dn j2 fb46_2 fb46_2 pe) (upd fb47_2 dn (nI j2))).2.2) from by rw [L2_X12_gossips, if_neg c11, if_neg c23, if_pos c29, if_neg c57, if_pos c65]).symm.trans hst2) _ _ _ hW (lv_sub hl [0, 4, 5, 6, 7, 8, 9] rfl)
                              · refine lv_iconst (v := 1) (pc := 274) hx hb dX12_gossips_274 (by decide) ?_
                                have hF : F_X12_gossips rP rA rB tH gR lW i lc pe dn le R = ((1 : Int32), (R (L4_X12_gossips rA rB i dn j2 fb46_2 fb46_2 pe) (upd fb47_2 dn (nI j2))).2.1, (R (L4_X12_gossips rA rB i dn j2 fb46_2 fb46_2 pe) (upd fb47_2 dn (nI j2))).2.2) := hst2.symm.trans (show L2_X12_gossips rA rB lW i lc pe dn R (fu2 + 1) j2 fb46_2 fb47_2 = ((1 : Int32), (R (L4_X12_gossips rA rB i dn j2 fb46_2 fb46_2 pe) (upd fb47_2 dn (nI j2))).2.1, (R (L4_X12_gossips rA rB i dn j2 fb46_2 fb46_2 pe) (upd fb47_2 dn (nI j2))).2.2) from by rw [L2_X12_gossips, if_neg c11, if_neg c23, if_pos c29, if_neg c57, if_neg c65])
                                exact e_z (u := [(h0, .inr (12, vs)), (b6, .inl (g.2.1 1, 11, .inl rP)), (b7, .inl (g.2.1 1, 11, .inl rL)), (b12, .inl (g.2.1 1, 132, .inl rA)), (b13, .inl (g.2.1 1, 132, .inl rB)), (b46, .inl (g.2.1 1, 112, .inl ((R (L4_X12_gossips rA rB i dn j2 fb46_2 fb46_2 pe) (upd fb47_2 dn (nI j2))).2.1))), (b47, .inl (g.2.1 1, 16, .inl ((R (L4_X12_gossips rA rB i dn j2 fb46_2 fb46_2 pe) (upd fb47_2 dn (nI j2))).2.2))), (b48, .inl (g.2.1 3, 12, .inl lW))]) X hQ hr (hW) rfl [0, 1, 2, 3, 4, 5, 6, 7] rfl rfl (⟨(congrArg Prod.fst hF).symm, by rw [hF]⟩) ⟨Nat.le_of_ble_eq_true rfl, Nat.le_of_ble_eq_true rfl⟩ dX12_gossips_275
                            · have h68 : ¬ (pe ≤ j4) := fun q => c60 ((nI_leI (a := pe) (b := j4) (by omega) (by omega)).mpr q)
                              refine lv_aload_n (pc := 194) hx hb dX12_gossips_194 rfl (lv_at hl 6 rfl) ?_
                              refine r_get X hW 0 ciX12 46 rfl (by decide) m_1273 rfl h46_ dX12_gossips_195 ?_
                              refine lv_iload (pc := 198) hx hb dX12_gossips_198 (lv_at hl 5 rfl) ?_
                              refine lv_bipush (v := 7) (pc := 200) hx hb dX12_gossips_200 (by decide) ?_
                              refine lv_iadd (pc := 202) hx hb dX12_gossips_202 ?_
                              refine lv_topi (fun v69 ev69 => ?_)
                              obtain rfl : v69 = nI (7 * dn + 7) := ev69.trans (nI_add (7 * dn) 7)
                              refine lv_iload (pc := 203) hx hb dX12_gossips_203 (lv_at hl 0 rfl) ?_
                              refine lv_iadd (pc := 205) hx hb dX12_gossips_205 ?_
                              refine lv_topi (fun v70 ev70 => ?_)
                              obtain rfl : v70 = nI (7 * dn + 7 + j4) := ev70.trans (nI_add _ _)
                              refine lv_iload (pc := 206) hx hb dX12_gossips_206 (lv_at hl 0 rfl) ?_
                              refine lv_aload_n (pc := 208) hx hb dX12_gossips_208 rfl (lv_at hl 6 rfl) ?_
                              refine r_get X hW 0 ciX12 12 rfl (by decide) m_1243 rfl h12_ dX12_gossips_209 ?_
                              refine lv_iload (pc := 212) hx hb dX12_gossips_212 (lv_at hl 2 rfl) ?_
                              refine r_iald X hW 3 rfl (vp_in_nI (by omega) (by decide)) dX12_gossips_214 ?_
                              refine lv_topi (fun v71 ev71 => ?_)
                              obtain rfl : v71 = rA (12 * i + j2) := ev71.trans (by rw [nI_clamp (by omega)])
                              have hAe := hA j2 (by omega)
                              have hAe2 := hAe.2
                              rw [hAe.1]
                              refine lv_icmp_eq (tgt := 230) (pc := 215) hx hb dX12_gossips_215 rfl (fun c72 => ?_) (fun c72 => ?_)
                              · have h73 : j4 = (tN (rA (12 * i + j2))) := (nI_eq (a := j4) (b := (tN (rA (12 * i + j2)))) (by omega) (by omega)).mp c72
                                refine lv_iload (pc := 230) hx hb dX12_gossips_230 (lv_at hl 1 rfl) ?_
                                refine lv_goto (tgt := 245) (pc := 232) hx hb dX12_gossips_232 rfl ?_
                                refine r_iast (ws' := [(h0, .inr (12, vs)), (b6, .inl (g.2.1 1, 11, .inl rP)), (b7, .inl (g.2.1 1, 11, .inl rL)), (b12, .inl (g.2.1 1, 132, .inl rA)), (b13, .inl (g.2.1 1, 132, .inl rB)), (b46, .inl (g.2.1 1, 112, .inl (upd fb46_4 (7 * dn + 7 + j4) ((fb46_2 (7 * dn + (tN (rA (12 * i + j2))))) ||| (fb46_2 (7 * dn + (tN (rB (12 * i + j2))))))))), (b47, .inl (g.2.1 1, 16, .inl fb47_2)), (b48, .inl (g.2.1 3, 12, .inl lW))]) X hW 5 rfl (vp_in_nI (by omega) (by decide)) (f' := (upd fb46_4 (7 * dn + 7 + j4) ((fb46_2 (7 * dn + (tN (rA (12 * i + j2))))) ||| (fb46_2 (7 * dn + (tN (rB (12 * i + j2)))))))) (by rw [nI_clamp (by omega)]) rfl dX12_gossips_245 (fun H locs hW => ?_)
                                refine lv_iinc (v := nI (j4 + 1)) (lv' := [(9, .int (nI (j4 + 1))), (8, .int ((fb46_2 (7 * dn + (tN (rA (12 * i + j2))))) ||| (fb46_2 (7 * dn + (tN (rB (12 * i + j2))))))), (7, .int (nI (12 * i + j2))), (6, .int (nI j2)), (5, .int (L1_X12_gossips rP tH i dn (1 : Int32) pe)), (4, .int (nI (7 * dn))), (0, .ref h0), (1, .int (nI i)), (2, .int (nI dn)), (3, .int (nI le))]) (pc := 246) hx hb dX12_gossips_246 hl (k := 0) rfl (nI_add j4 1) (by decide) rfl (fun ls hl => ?_)
                                refine lv_goto (tgt := 183) (pc := 249) hx hb dX12_gossips_249 rfl ?_
                                exact ih4 (j4 + 1) (upd fb46_4 (7 * dn + 7 + j4) ((fb46_2 (7 * dn + (tN (rA (12 * i + j2))))) ||| (fb46_2 (7 * dn + (tN (rB (12 * i + j2))))))) (by omega) (by omega) (by rw [L4_X12_gossips, ← hst4]; exact (show L4_X12_gossipss rA rB i dn j2 fb46_2 j4 fb46_4 = (upd fb46_4 (7 * dn + 7 + j4) ((fb46_2 (7 * dn + (tN (rA (12 * i + j2))))) ||| (fb46_2 (7 * dn + (tN (rB (12 * i + j2))))))) from by rw [L4_X12_gossipss, if_pos c72]).symm) _ _ _ hW (lv_sub hl [0, 1, 2, 3, 4, 5, 6, 7, 8, 9] rfl)
                              · have h74 : ¬ (j4 = (tN (rA (12 * i + j2)))) := fun q => c72 ((nI_eq (a := j4) (b := (tN (rA (12 * i + j2)))) (by omega) (by omega)).mpr q)
                                refine lv_iload (pc := 218) hx hb dX12_gossips_218 (lv_at hl 0 rfl) ?_
                                refine lv_aload_n (pc := 220) hx hb dX12_gossips_220 rfl (lv_at hl 6 rfl) ?_
                                refine r_get X hW 0 ciX12 13 rfl (by decide) m_1244 rfl h13_ dX12_gossips_221 ?_
                                refine lv_iload (pc := 224) hx hb dX12_gossips_224 (lv_at hl 2 rfl) ?_
                                refine r_iald X hW 4 rfl (vp_in_nI (by omega) (by decide)) dX12_gossips_226 ?_
                                refine lv_topi (fun v75 ev75 => ?_)
                                obtain rfl : v75 = rB (12 * i + j2) := ev75.trans (by rw [nI_clamp (by omega)])
                                have hBe := hB j2 (by omega)
                                have hBe2 := hBe.2
                                rw [hBe.1]
                                refine lv_icmp_ne (tgt := 235) (pc := 227) hx hb dX12_gossips_227 rfl (fun c76 => ?_) (fun c76 => ?_)
                                · have h77 : ¬ (j4 = (tN (rB (12 * i + j2)))) := fun q => c76 ((nI_eq (a := j4) (b := (tN (rB (12 * i + j2)))) (by omega) (by omega)).mpr q)
                                  refine lv_aload_n (pc := 235) hx hb dX12_gossips_235 rfl (lv_at hl 6 rfl) ?_
                                  refine r_get X hW 0 ciX12 46 rfl (by decide) m_1273 rfl h46_ dX12_gossips_236 ?_
                                  refine lv_iload (pc := 239) hx hb dX12_gossips_239 (lv_at hl 5 rfl) ?_
                                  refine lv_iload (pc := 241) hx hb dX12_gossips_241 (lv_at hl 0 rfl) ?_
                                  refine lv_iadd (pc := 243) hx hb dX12_gossips_243 ?_
                                  refine lv_topi (fun v78 ev78 => ?_)
                                  obtain rfl : v78 = nI (7 * dn + j4) := ev78.trans (nI_add _ _)
                                  refine r_iald X hW 5 rfl (vp_in_nI (by omega) (by decide)) dX12_gossips_244 ?_
                                  refine lv_topi (fun v79 ev79 => ?_)
                                  obtain rfl : v79 = fb46_4 (7 * dn + j4) := ev79.trans (by rw [nI_clamp (by omega)])
                                  refine r_iast (ws' := [(h0, .inr (12, vs)), (b6, .inl (g.2.1 1, 11, .inl rP)), (b7, .inl (g.2.1 1, 11, .inl rL)), (b12, .inl (g.2.1 1, 132, .inl rA)), (b13, .inl (g.2.1 1, 132, .inl rB)), (b46, .inl (g.2.1 1, 112, .inl (upd fb46_4 (7 * dn + 7 + j4) (fb46_4 (7 * dn + j4))))), (b47, .inl (g.2.1 1, 16, .inl fb47_2)), (b48, .inl (g.2.1 3, 12, .inl lW))]) X hW 5 rfl (vp_in_nI (by omega) (by decide)) (f' := (upd fb46_4 (7 * dn + 7 + j4) (fb46_4 (7 * dn + j4)))) (by rw [nI_clamp (by omega)]) rfl dX12_gossips_245 (fun H locs hW => ?_)
                                  refine lv_iinc (v := nI (j4 + 1)) (lv' := [(9, .int (nI (j4 + 1))), (8, .int ((fb46_2 (7 * dn + (tN (rA (12 * i + j2))))) ||| (fb46_2 (7 * dn + (tN (rB (12 * i + j2))))))), (7, .int (nI (12 * i + j2))), (6, .int (nI j2)), (5, .int (L1_X12_gossips rP tH i dn (1 : Int32) pe)), (4, .int (nI (7 * dn))), (0, .ref h0), (1, .int (nI i)), (2, .int (nI dn)), (3, .int (nI le))]) (pc := 246) hx hb dX12_gossips_246 hl (k := 0) rfl (nI_add j4 1) (by decide) rfl (fun ls hl => ?_)
                                  refine lv_goto (tgt := 183) (pc := 249) hx hb dX12_gossips_249 rfl ?_
                                  exact ih4 (j4 + 1) (upd fb46_4 (7 * dn + 7 + j4) (fb46_4 (7 * dn + j4))) (by omega) (by omega) (by rw [L4_X12_gossips, ← hst4]; exact (show L4_X12_gossipss rA rB i dn j2 fb46_2 j4 fb46_4 = (upd fb46_4 (7 * dn + 7 + j4) (fb46_4 (7 * dn + j4))) from by rw [L4_X12_gossipss, if_neg c72, if_neg c76]).symm) _ _ _ hW (lv_sub hl [0, 1, 2, 3, 4, 5, 6, 7, 8, 9] rfl)
                                · have h80 : j4 = (tN (rB (12 * i + j2))) := (nI_eq (a := j4) (b := (tN (rB (12 * i + j2)))) (by omega) (by omega)).mp c76
                                  refine lv_iload (pc := 230) hx hb dX12_gossips_230 (lv_at hl 1 rfl) ?_
                                  refine lv_goto (tgt := 245) (pc := 232) hx hb dX12_gossips_232 rfl ?_
                                  refine r_iast (ws' := [(h0, .inr (12, vs)), (b6, .inl (g.2.1 1, 11, .inl rP)), (b7, .inl (g.2.1 1, 11, .inl rL)), (b12, .inl (g.2.1 1, 132, .inl rA)), (b13, .inl (g.2.1 1, 132, .inl rB)), (b46, .inl (g.2.1 1, 112, .inl (upd fb46_4 (7 * dn + 7 + j4) ((fb46_2 (7 * dn + (tN (rA (12 * i + j2))))) ||| (fb46_2 (7 * dn + (tN (rB (12 * i + j2))))))))), (b47, .inl (g.2.1 1, 16, .inl fb47_2)), (b48, .inl (g.2.1 3, 12, .inl lW))]) X hW 5 rfl (vp_in_nI (by omega) (by decide)) (f' := (upd fb46_4 (7 * dn + 7 + j4) ((fb46_2 (7 * dn + (tN (rA (12 * i + j2))))) ||| (fb46_2 (7 * dn + (tN (rB (12 * i + j2)))))))) (by rw [nI_clamp (by omega)]) rfl dX12_gossips_245 (fun H locs hW => ?_)
                                  refine lv_iinc (v := nI (j4 + 1)) (lv' := [(9, .int (nI (j4 + 1))), (8, .int ((fb46_2 (7 * dn + (tN (rA (12 * i + j2))))) ||| (fb46_2 (7 * dn + (tN (rB (12 * i + j2))))))), (7, .int (nI (12 * i + j2))), (6, .int (nI j2)), (5, .int (L1_X12_gossips rP tH i dn (1 : Int32) pe)), (4, .int (nI (7 * dn))), (0, .ref h0), (1, .int (nI i)), (2, .int (nI dn)), (3, .int (nI le))]) (pc := 246) hx hb dX12_gossips_246 hl (k := 0) rfl (nI_add j4 1) (by decide) rfl (fun ls hl => ?_)
                                  refine lv_goto (tgt := 183) (pc := 249) hx hb dX12_gossips_249 rfl ?_
                                  exact ih4 (j4 + 1) (upd fb46_4 (7 * dn + 7 + j4) ((fb46_2 (7 * dn + (tN (rA (12 * i + j2))))) ||| (fb46_2 (7 * dn + (tN (rB (12 * i + j2))))))) (by omega) (by omega) (by rw [L4_X12_gossips, ← hst4]; exact (show L4_X12_gossipss rA rB i dn j2 fb46_2 j4 fb46_4 = (upd fb46_4 (7 * dn + 7 + j4) ((fb46_2 (7 * dn + (tN (rA (12 * i + j2))))) ||| (fb46_2 (7 * dn + (tN (rB (12 * i + j2))))))) from by rw [L4_X12_gossipss, if_neg c72, if_pos c76]).symm) _ _ _ hW (lv_sub hl [0, 1, 2, 3, 4, 5, 6, 7, 8, 9] rfl)
                        exact loop4 (pe + 1) 0 fb46_2 (by omega) (by omega) rfl _ _ _ hW (lv_sub hl [0, 1, 2, 3, 4, 5, 6, 7, 8, 9] rfl)
                      · refine lv_goto (tgt := 276) (pc := 177) hx hb dX12_gossips_177 rfl ?_
                        refine lv_iinc (v := nI (j2 + 1)) (lv' := [(6, .int (nI (j2 + 1))), (8, .int ((fb46_2 (7 * dn + (tN (rA (12 * i + j2))))) ||| (fb46_2 (7 * dn + (tN (rB (12 * i + j2))))))), (7, .int (nI (12 * i + j2))), (5, .int (L1_X12_gossips rP tH i dn (1 : Int32) pe)), (4, .int (nI (7 * dn))), (0, .ref h0), (1, .int (nI i)), (2, .int (nI dn)), (3, .int (nI le))]) (pc := 276) hx hb dX12_gossips_276 hl (k := 2) rfl (nI_add j2 1) (by decide) rfl (fun ls hl => ?_)
                        refine lv_goto (tgt := 74) (pc := 279) hx hb dX12_gossips_279 rfl ?_
                        exact ih2 (j2 + 1) fb46_2 fb47_2 (by omega) (by omega) ((show L2_X12_gossips rA rB lW i lc pe dn R (fu2 + 1) j2 fb46_2 fb47_2 = L2_X12_gossips rA rB lW i lc pe dn R fu2 (j2 + 1) fb46_2 fb47_2 from by rw [L2_X12_gossips, if_neg c11, if_neg c23, if_pos c29, if_pos c57]).symm.trans hst2) _ _ _ hW (lv_sub hl [0, 3, 4, 5, 6, 7, 8] rfl)
            exact loop2 (lc + 1) 0 tH gR (by omega) (by omega) (show F_X12_gossips rP rA rB tH gR lW i lc pe dn le R = L2_X12_gossips rA rB lW i lc pe dn R (lc + 1) 0 tH gR from by rw [F_X12_gossips, if_pos c5, if_neg c8]).symm _ _ _ hW (lv_sub hl [0, 1, 2, 3, 4, 5, 6] rfl)
          · have h82 : le = 0 := (nI_eq (a := le) (b := 0) (by omega) (by omega)).mp c8
            refine lv_iload (pc := 68) hx hb dX12_gossips_68 (lv_at hl 1 rfl) ?_
            have hF : F_X12_gossips rP rA rB tH gR lW i lc pe dn le R = ((L1_X12_gossips rP tH i dn (1 : Int32) pe), tH, gR) := show F_X12_gossips rP rA rB tH gR lW i lc pe dn le R = ((L1_X12_gossips rP tH i dn (1 : Int32) pe), tH, gR) from by rw [F_X12_gossips, if_pos c5, if_pos c8]
            exact e_z (u := [(h0, .inr (12, vs)), (b6, .inl (g.2.1 1, 11, .inl rP)), (b7, .inl (g.2.1 1, 11, .inl rL)), (b12, .inl (g.2.1 1, 132, .inl rA)), (b13, .inl (g.2.1 1, 132, .inl rB)), (b46, .inl (g.2.1 1, 112, .inl tH)), (b47, .inl (g.2.1 1, 16, .inl gR)), (b48, .inl (g.2.1 3, 12, .inl lW))]) X hQ hr (hW) (L1_X12_gossips_z ..) [0, 1, 2, 3, 4, 5, 6, 7] rfl rfl (⟨(congrArg Prod.fst hF).symm, by rw [hF]⟩) ⟨Nat.le_of_ble_eq_true rfl, Nat.le_of_ble_eq_true rfl⟩ dX12_gossips_70
      · have h83 : ¬ (pe ≤ j1) := fun q => c3 ((nI_leI (a := pe) (b := j1) (by omega) (by omega)).mpr q)
        refine lv_iload (pc := 23) hx hb dX12_gossips_23 (lv_at hl 1 rfl) ?_
        refine lv_if_eq (tgt := 50) (pc := 25) hx hb dX12_gossips_25 rfl (fun c84 => ?_) (fun c84 => ?_)
        · refine lv_iconst (v := 0) (pc := 50) hx hb dX12_gossips_50 (by decide) ?_
          refine lv_istore (lv' := [(5, .int 0), (6, .int (nI j1)), (4, .int (nI (7 * dn))), (0, .ref h0), (1, .int (nI i)), (2, .int (nI dn)), (3, .int (nI le))]) (pc := 51) hx hb dX12_gossips_51 hl (by decide) rfl (fun ls hl => ?_)
          refine lv_iinc (v := nI (j1 + 1)) (lv' := [(6, .int (nI (j1 + 1))), (5, .int 0), (4, .int (nI (7 * dn))), (0, .ref h0), (1, .int (nI i)), (2, .int (nI dn)), (3, .int (nI le))]) (pc := 53) hx hb dX12_gossips_53 hl (k := 1) rfl (nI_add j1 1) (by decide) rfl (fun ls hl => ?_)
          refine lv_goto (tgt := 12) (pc := 56) hx hb dX12_gossips_56 rfl ?_
          exact ih1 (j1 + 1) (0 : Int32) (by omega) (by omega) (by rw [L1_X12_gossips, ← hst1]; exact (show L1_X12_gossipss rP tH i dn j1 x5_1 = (0 : Int32) from by rw [L1_X12_gossipss, if_pos c84]).symm) _ _ _ hW (lv_sub hl [0, 1, 2, 3, 4, 5, 6] rfl)
        · refine lv_aload_n (pc := 28) hx hb dX12_gossips_28 rfl (lv_at hl 3 rfl) ?_
          refine r_get X hW 0 ciX12 46 rfl (by decide) m_1273 rfl h46_ dX12_gossips_29 ?_
          refine lv_iload (pc := 32) hx hb dX12_gossips_32 (lv_at hl 2 rfl) ?_
          refine lv_iload (pc := 34) hx hb dX12_gossips_34 (lv_at hl 0 rfl) ?_
          refine lv_iadd (pc := 36) hx hb dX12_gossips_36 ?_
          refine lv_topi (fun v87 ev87 => ?_)
          obtain rfl : v87 = nI (7 * dn + j1) := ev87.trans (nI_add _ _)
          refine r_iald X hW 5 rfl (vp_in_nI (by omega) (by decide)) dX12_gossips_37 ?_
          refine lv_topi (fun v88 ev88 => ?_)
          obtain rfl : v88 = tH (7 * dn + j1) := ev88.trans (by rw [nI_clamp (by omega)])
          refine lv_aload_n (pc := 38) hx hb dX12_gossips_38 rfl (lv_at hl 3 rfl) ?_
          refine lv_iload_n (pc := 39) hx hb dX12_gossips_39 rfl (lv_at hl 4 rfl) ?_
          refine c_Vi (pc := 40) (As := [.int (nI i)]) (rest := [.int (tH (7 * dn + j1))]) (wr := [(b7, .inl (g.2.1 1, 11, .inl rL)), (b12, .inl (g.2.1 1, 132, .inl rA)), (b13, .inl (g.2.1 1, 132, .inl rB)), (b46, .inl (g.2.1 1, 112, .inl tH)), (b47, .inl (g.2.1 1, 16, .inl gR)), (b48, .inl (g.2.1 3, 12, .inl lW))]) X hW 0 ciX12 rfl (K_X12_everybody l g h0 vs b6 rP i hlen h6_ (by omega)) vX12_274 [0, 1] [2, 3, 4, 5, 6, 7] rfl rfl rfl rfl rfl rfl hl.1 rfl (Nat.le_of_ble_eq_true rfl) ⟨by show _ ≤ dd + 1; omega, by show _ ≤ 40 * (dd + 1); omega⟩ ⟨Nat.le_of_ble_eq_true rfl, Nat.le_of_ble_eq_true rfl⟩ dX12_gossips_40 (fun r89 u9 H locs hq hW => ?_)
          obtain ⟨rfl, rfl⟩ := hq
          have hW : WD g A s _ _ [(b7, .inl (g.2.1 1, 11, .inl rL)), (b12, .inl (g.2.1 1, 132, .inl rA)), (b13, .inl (g.2.1 1, 132, .inl rB)), (b46, .inl (g.2.1 1, 112, .inl tH)), (b47, .inl (g.2.1 1, 16, .inl gR)), (b48, .inl (g.2.1 3, 12, .inl lW)), (h0, .inr (12, vs)), (b6, .inl (g.2.1 1, 11, .inl rP))] := hW
          refine lv_icmp_ne (tgt := 50) (pc := 43) hx hb dX12_gossips_43 rfl (fun c90 => ?_) (fun c90 => ?_)
          · refine lv_iconst (v := 0) (pc := 50) hx hb dX12_gossips_50 (by decide) ?_
            refine lv_istore (lv' := [(5, .int 0), (6, .int (nI j1)), (4, .int (nI (7 * dn))), (0, .ref h0), (1, .int (nI i)), (2, .int (nI dn)), (3, .int (nI le))]) (pc := 51) hx hb dX12_gossips_51 hl (by decide) rfl (fun ls hl => ?_)
            refine lv_iinc (v := nI (j1 + 1)) (lv' := [(6, .int (nI (j1 + 1))), (5, .int 0), (4, .int (nI (7 * dn))), (0, .ref h0), (1, .int (nI i)), (2, .int (nI dn)), (3, .int (nI le))]) (pc := 53) hx hb dX12_gossips_53 hl (k := 1) rfl (nI_add j1 1) (by decide) rfl (fun ls hl => ?_)
            refine lv_goto (tgt := 12) (pc := 56) hx hb dX12_gossips_56 rfl ?_
            have hW : WD g A s _ _ [(h0, .inr (12, vs)), (b6, .inl (g.2.1 1, 11, .inl rP)), (b7, .inl (g.2.1 1, 11, .inl rL)), (b12, .inl (g.2.1 1, 132, .inl rA)), (b13, .inl (g.2.1 1, 132, .inl rB)), (b46, .inl (g.2.1 1, 112, .inl tH)), (b47, .inl (g.2.1 1, 16, .inl gR)), (b48, .inl (g.2.1 3, 12, .inl lW))] := hW.pick [6, 7, 0, 1, 2, 3, 4, 5] rfl rfl
            exact ih1 (j1 + 1) (0 : Int32) (by omega) (by omega) (by rw [L1_X12_gossips, ← hst1]; exact (show L1_X12_gossipss rP tH i dn j1 x5_1 = (0 : Int32) from by rw [L1_X12_gossipss, if_neg c84, if_neg c90]).symm) _ _ _ hW (lv_sub hl [0, 1, 2, 3, 4, 5, 6] rfl)
          · refine lv_iconst (v := 1) (pc := 46) hx hb dX12_gossips_46 (by decide) ?_
            refine lv_goto (tgt := 51) (pc := 47) hx hb dX12_gossips_47 rfl ?_
            refine lv_istore (lv' := [(5, .int 1), (6, .int (nI j1)), (4, .int (nI (7 * dn))), (0, .ref h0), (1, .int (nI i)), (2, .int (nI dn)), (3, .int (nI le))]) (pc := 51) hx hb dX12_gossips_51 hl (by decide) rfl (fun ls hl => ?_)
            refine lv_iinc (v := nI (j1 + 1)) (lv' := [(6, .int (nI (j1 + 1))), (5, .int 1), (4, .int (nI (7 * dn))), (0, .ref h0), (1, .int (nI i)), (2, .int (nI dn)), (3, .int (nI le))]) (pc := 53) hx hb dX12_gossips_53 hl (k := 1) rfl (nI_add j1 1) (by decide) rfl (fun ls hl => ?_)
            refine lv_goto (tgt := 12) (pc := 56) hx hb dX12_gossips_56 rfl ?_
            have hW : WD g A s _ _ [(h0, .inr (12, vs)), (b6, .inl (g.2.1 1, 11, .inl rP)), (b7, .inl (g.2.1 1, 11, .inl rL)), (b12, .inl (g.2.1 1, 132, .inl rA)), (b13, .inl (g.2.1 1, 132, .inl rB)), (b46, .inl (g.2.1 1, 112, .inl tH)), (b47, .inl (g.2.1 1, 16, .inl gR)), (b48, .inl (g.2.1 3, 12, .inl lW))] := hW.pick [6, 7, 0, 1, 2, 3, 4, 5] rfl rfl
            exact ih1 (j1 + 1) (1 : Int32) (by omega) (by omega) (by rw [L1_X12_gossips, ← hst1]; exact (show L1_X12_gossipss rP tH i dn j1 x5_1 = (1 : Int32) from by rw [L1_X12_gossipss, if_neg c84, if_pos c90]).symm) _ _ _ hW (lv_sub hl [0, 1, 2, 3, 4, 5, 6] rfl)
  exact loop1 (pe + 1) 0 (1 : Int32) (by omega) (by omega) rfl _ _ _ hW (lv_sub hl [0, 1, 2, 3, 4, 5, 6] rfl)

/-- gossips with so many calls left, the rows from dn on -/
def GP (rP rA rB lW : Nat → Int32) (i lc pe : Nat) : Nat → Nat → GOF
  | 0, dn => fun tH gR => F_X12_gossips rP rA rB tH gR lW i lc pe dn 0 (fun K G => (0, K, G))
  | le + 1, dn => fun tH gR => F_X12_gossips rP rA rB tH gR lW i lc pe dn (le + 1) (GP rP rA rB lW i lc pe le (dn + 1))
theorem K_gp (l : Launch) (g : GG) (h0 : Nat) (vs : List Value) (b6 : Nat) (rP : Nat → Int32) (b7 : Nat) (rL : Nat → Int32) (b12 : Nat) (rA : Nat → Int32) (b13 : Nat) (rB : Nat → Int32) (b46 : Nat) (b47 : Nat) (b48 : Nat) (lW : Nat → Int32) (i lc pe : Nat) (hlen : vs.length = 64) (h6_ : vs[6]? = some (.ref b6)) (h7_ : vs[7]? = some (.ref b7)) (h12_ : vs[12]? = some (.ref b12)) (h13_ : vs[13]? = some (.ref b13)) (h46_ : vs[46]? = some (.ref b46)) (h47_ : vs[47]? = some (.ref b47)) (h48_ : vs[48]? = some (.ref b48)) (hi : i < 11) (hlc : lc ≤ 12) (hL : rL i = nI lc) (hpe : pe ≤ 5) (hP : rP i = nI pe) (hA : ∀ l : Nat, l < lc → rA (12 * i + l) = nI (tN (rA (12 * i + l))) ∧ tN (rA (12 * i + l)) < pe) (hB : ∀ l : Nat, l < lc → rB (12 * i + l) = nI (tN (rB (12 * i + l))) ∧ tN (rB (12 * i + l)) < pe) : ∀ (le dn : Nat), dn + le ≤ 8 → ∀ (Th Gr : Nat → Int32), MetI l g yX12_gossips cX12_gossips 10 (some .boolean) (le + 7) 0 0 [.ref h0, .int (nI i), .int (nI dn), .int (nI le)] [(h0, .inr (12, vs)), (b6, .inl (g.2.1 1, 11, .inl rP)), (b7, .inl (g.2.1 1, 11, .inl rL)), (b12, .inl (g.2.1 1, 132, .inl rA)), (b13, .inl (g.2.1 1, 132, .inl rB)), (b46, .inl (g.2.1 1, 112, .inl Th)), (b47, .inl (g.2.1 1, 16, .inl Gr)), (b48, .inl (g.2.1 3, 12, .inl lW))] (fun r u => r = (GP rP rA rB lW i lc pe le dn Th Gr).1 ∧ u = [(h0, .inr (12, vs)), (b6, .inl (g.2.1 1, 11, .inl rP)), (b7, .inl (g.2.1 1, 11, .inl rL)), (b12, .inl (g.2.1 1, 132, .inl rA)), (b13, .inl (g.2.1 1, 132, .inl rB)), (b46, .inl (g.2.1 1, 112, .inl ((GP rP rA rB lW i lc pe le dn Th Gr).2.1))), (b47, .inl (g.2.1 1, 16, .inl ((GP rP rA rB lW i lc pe le dn Th Gr).2.2))), (b48, .inl (g.2.1 3, 12, .inl lW))])
  | 0, dn, hd, Th, Gr => K_X12_gossips l g h0 vs b6 rP b7 rL b12 rA b13 rB b46 Th b47 Gr b48 lW i lc pe dn 0 (fun K G => (0, K, G)) 6 (by omega) hlen h6_ h7_ h12_ h13_ h46_ h47_ h48_ hi hlc hL hpe hP hA hB (by omega) (fun q => absurd q (Nat.lt_irrefl _))
  | le + 1, dn, hd, Th, Gr => K_X12_gossips l g h0 vs b6 rP b7 rL b12 rA b13 rB b46 Th b47 Gr b48 lW i lc pe dn (le + 1) (GP rP rA rB lW i lc pe le (dn + 1)) (le + 7) (by omega) hlen h6_ h7_ h12_ h13_ h46_ h47_ h48_ hi hlc hL hpe hP hA hB (by omega) (fun _ Th2 Gr2 => by
      rw [show le + 1 - 1 = le from rfl]
      exact K_gp l g h0 vs b6 rP b7 rL b12 rA b13 rB b46 b47 b48 lW i lc pe hlen h6_ h7_ h12_ h13_ h46_ h47_ h48_ hi hlc hL hpe hP hA hB le (dn + 1) (by omega) Th2 Gr2)
theorem K_gp0 (l : Launch) (g : GG) (h0 : Nat) (vs : List Value) (b6 : Nat) (rP : Nat → Int32) (b7 : Nat) (rL : Nat → Int32) (b12 : Nat) (rA : Nat → Int32) (b13 : Nat) (rB : Nat → Int32) (b46 : Nat) (b47 : Nat) (b48 : Nat) (lW : Nat → Int32) (i lc pe : Nat) (hlen : vs.length = 64) (h6_ : vs[6]? = some (.ref b6)) (h7_ : vs[7]? = some (.ref b7)) (h12_ : vs[12]? = some (.ref b12)) (h13_ : vs[13]? = some (.ref b13)) (h46_ : vs[46]? = some (.ref b46)) (h47_ : vs[47]? = some (.ref b47)) (h48_ : vs[48]? = some (.ref b48)) (hi : i < 11) (hlc : lc ≤ 12) (hL : rL i = nI lc) (hpe : pe ≤ 5) (hP : rP i = nI pe) (hA : ∀ l : Nat, l < lc → rA (12 * i + l) = nI (tN (rA (12 * i + l))) ∧ tN (rA (12 * i + l)) < pe) (hB : ∀ l : Nat, l < lc → rB (12 * i + l) = nI (tN (rB (12 * i + l))) ∧ tN (rB (12 * i + l)) < pe) (le : Nat) (hle : le ≤ 8) (Th Gr : Nat → Int32) : MetI l g yX12_gossips cX12_gossips 10 (some .boolean) 15 0 0 [.ref h0, .int (nI i), .int 0, .int (nI le)] [(h0, .inr (12, vs)), (b6, .inl (g.2.1 1, 11, .inl rP)), (b7, .inl (g.2.1 1, 11, .inl rL)), (b12, .inl (g.2.1 1, 132, .inl rA)), (b13, .inl (g.2.1 1, 132, .inl rB)), (b46, .inl (g.2.1 1, 112, .inl Th)), (b47, .inl (g.2.1 1, 16, .inl Gr)), (b48, .inl (g.2.1 3, 12, .inl lW))] (fun r u => r = (GP rP rA rB lW i lc pe le 0 Th Gr).1 ∧ u = [(h0, .inr (12, vs)), (b6, .inl (g.2.1 1, 11, .inl rP)), (b7, .inl (g.2.1 1, 11, .inl rL)), (b12, .inl (g.2.1 1, 132, .inl rA)), (b13, .inl (g.2.1 1, 132, .inl rB)), (b46, .inl (g.2.1 1, 112, .inl ((GP rP rA rB lW i lc pe le 0 Th Gr).2.1))), (b47, .inl (g.2.1 1, 16, .inl ((GP rP rA rB lW i lc pe le 0 Th Gr).2.2))), (b48, .inl (g.2.1 3, 12, .inl lW))]) := MetI.room (K_gp l g h0 vs b6 rP b7 rL b12 rA b13 rB b46 b47 b48 lW i lc pe hlen h6_ h7_ h12_ h13_ h46_ h47_ h48_ hi hlc hL hpe hP hA hB le 0 (by omega) Th Gr) (show le + 7 ≤ 15 by omega)
def L5_X12_fewestOfs (rA : Nat → Int32) (rB : Nat → Int32) (rO : Nat → Int32) (i : Nat) (j1 : Nat) (j5 : Nat) (fb48_5 : Nat → Int32) : (Nat → Int32) := if fb48_5 j5 = 0 then (fb48_5) else (if F_X12_joins rA rB rO (12 * i + j5) (rA (12 * i + j1)) (rB (12 * i + j1)) = 0 then (fb48_5) else ((upd fb48_5 j1 (0 : Int32))))
def L5_X12_fewestOf (rA : Nat → Int32) (rB : Nat → Int32) (rO : Nat → Int32) (i : Nat) (j1 : Nat) (i0_ : Nat → Int32) : Nat → (Nat → Int32)
  | 0 => (i0_)
  | k_ + 1 => L5_X12_fewestOfs rA rB rO i j1 k_ (L5_X12_fewestOf rA rB rO i j1 i0_ k_)
def L4_X12_fewestOfs (rA : Nat → Int32) (rB : Nat → Int32) (rO : Nat → Int32) (i : Nat) (j1 : Nat) (j4 : Nat) (fb48_4 : Nat → Int32) : (Nat → Int32) := if fb48_4 j4 = 0 then (fb48_4) else (if F_X12_joins rA rB rO (12 * i + j4) (rA (12 * i + j1)) (rB (12 * i + j1)) = 0 then (fb48_4) else ((upd fb48_4 j1 (0 : Int32))))
def L4_X12_fewestOf (rA : Nat → Int32) (rB : Nat → Int32) (rO : Nat → Int32) (i : Nat) (j1 : Nat) (i0_ : Nat → Int32) : Nat → (Nat → Int32)
  | 0 => (i0_)
  | k_ + 1 => L4_X12_fewestOfs rA rB rO i j1 k_ (L4_X12_fewestOf rA rB rO i j1 i0_ k_)
def L1_X12_fewestOfs (rA : Nat → Int32) (rB : Nat → Int32) (rO : Nat → Int32) (i : Nat) (j1 : Nat) (fb48_1 : Nat → Int32) : (Nat → Int32) := if rO (12 * i + j1) = 0 then ((L5_X12_fewestOf rA rB rO i j1 (upd fb48_1 j1 (1 : Int32)) j1)) else ((L4_X12_fewestOf rA rB rO i j1 (upd fb48_1 j1 (0 : Int32)) j1))
def L1_X12_fewestOf (rA : Nat → Int32) (rB : Nat → Int32) (rO : Nat → Int32) (i : Nat) (i0_ : Nat → Int32) : Nat → (Nat → Int32)
  | 0 => (i0_)
  | k_ + 1 => L1_X12_fewestOfs rA rB rO i k_ (L1_X12_fewestOf rA rB rO i i0_ k_)
def L3_X12_fewestOf (rP : Nat → Int32) (rA : Nat → Int32) (rB : Nat → Int32) (rO : Nat → Int32) (lW : Nat → Int32) (i : Nat) (lc : Nat) (pe : Nat) : Nat → Nat → (Nat → Int32) → (Nat → Int32) → Int32 × (Nat → Int32) × (Nat → Int32) × (Nat → Int32)
  | 0, _, _, _ => (0, fun _ => 0, fun _ => 0, fun _ => 0)
  | m_ + 1, j3, fb46_3, fb47_3 => if (GP rP rA rB (L1_X12_fewestOf rA rB rO i lW lc) i lc pe j3 0 fb46_3 fb47_3).1 = 0 then (L3_X12_fewestOf rP rA rB rO lW i lc pe m_ (j3 + 1) ((GP rP rA rB (L1_X12_fewestOf rA rB rO i lW lc) i lc pe j3 0 fb46_3 fb47_3).2.1) ((GP rP rA rB (L1_X12_fewestOf rA rB rO i lW lc) i lc pe j3 0 fb46_3 fb47_3).2.2)) else ((nI j3, (GP rP rA rB (L1_X12_fewestOf rA rB rO i lW lc) i lc pe j3 0 fb46_3 fb47_3).2.1, (GP rP rA rB (L1_X12_fewestOf rA rB rO i lW lc) i lc pe j3 0 fb46_3 fb47_3).2.2, (L1_X12_fewestOf rA rB rO i lW lc)))
def L2_X12_fewestOfs  (j2 : Nat) (fb46_2 : Nat → Int32) : (Nat → Int32) := (upd fb46_2 j2 ((1 : Int32) <<< ((nI j2) &&& 31)))
def L2_X12_fewestOf  (i0_ : Nat → Int32) : Nat → (Nat → Int32)
  | 0 => (i0_)
  | k_ + 1 => L2_X12_fewestOfs  k_ (L2_X12_fewestOf  i0_ k_)
theorem th_1 {t : Nat → Int32} : ∀ k o : Nat, o < k → L2_X12_fewestOf t k o = (1 : Int32) <<< (nI o &&& 31)
  | 0, o, h => absurd h (Nat.not_lt_zero o)
  | k + 1, o, h => by
    show upd (L2_X12_fewestOf t k) k ((1 : Int32) <<< (nI k &&& 31)) o = _
    by_cases e : o = k
    · rw [e, upd_eq]
    · rw [upd_ne e]
      exact th_1 k o (by omega)
def F_X12_fewestOf (rP : Nat → Int32) (rA : Nat → Int32) (rB : Nat → Int32) (rO : Nat → Int32) (tH : Nat → Int32) (gR : Nat → Int32) (lW : Nat → Int32) (i : Nat) (lc : Nat) (pe : Nat) : Int32 × (Nat → Int32) × (Nat → Int32) × (Nat → Int32) := if 5 < nI pe then (((-1 : Int32), tH, gR, lW)) else (if F_X12_holdsAll rP rA rB rO lc i = 0 then (((-1 : Int32), tH, gR, lW)) else (L3_X12_fewestOf rP rA rB rO lW i lc pe (7 + 1) 0 (L2_X12_fewestOf tH pe) gR))
set_option maxHeartbeats 4000000 in
set_option maxRecDepth 100000 in
theorem K_X12_fewestOf (l : Launch) (g : GG) (h0 : Nat) (vs : List Value) (b6 : Nat) (rP : Nat → Int32) (b7 : Nat) (rL : Nat → Int32) (b12 : Nat) (rA : Nat → Int32) (b13 : Nat) (rB : Nat → Int32) (b17 : Nat) (rO : Nat → Int32) (b46 : Nat) (tH : Nat → Int32) (b47 : Nat) (gR : Nat → Int32) (b48 : Nat) (lW : Nat → Int32) (i : Nat) (lc : Nat) (pe : Nat) (hlen : vs.length = 64) (h6_ : vs[6]? = some (.ref b6)) (h7_ : vs[7]? = some (.ref b7)) (h12_ : vs[12]? = some (.ref b12)) (h13_ : vs[13]? = some (.ref b13)) (h17_ : vs[17]? = some (.ref b17)) (h46_ : vs[46]? = some (.ref b46)) (h47_ : vs[47]? = some (.ref b47)) (h48_ : vs[48]? = some (.ref b48)) (hi : i < 11) (hlc : lc ≤ 12) (hL : rL i = nI lc) (hpe : pe ≤ 7) (hP : rP i = nI pe) (hA : ∀ l : Nat, l < lc → rA (12 * i + l) = nI (tN (rA (12 * i + l))) ∧ tN (rA (12 * i + l)) < pe) (hB : ∀ l : Nat, l < lc → rB (12 * i + l) = nI (tN (rB (12 * i + l))) ∧ tN (rB (12 * i + l)) < pe) (hkp : ∀ (W : Nat → Int32) (n : Nat) (T G : Nat → Int32) (o : Nat), n ≤ 7 → o < 7 → (GP rP rA rB W i lc pe n 0 T G).2.1 o = T o) (hfin : ∀ (n : Nat) (T G : Nat → Int32), n ≤ 7 → (∀ o : Nat, o < pe → T o = (1 : Int32) <<< (nI o &&& 31)) → pe ≤ 5 → ¬ F_X12_holdsAll rP rA rB rO lc i = 0 → (GP rP rA rB (L1_X12_fewestOf rA rB rO i lW lc) i lc pe n 0 T G).1 = 0 → n < 7) : MetI l g yX12_fewestOf cX12_fewestOf 4 (some .int) 16 0 0 [.ref h0, .int (nI i)] [(h0, .inr (12, vs)), (b6, .inl (g.2.1 1, 11, .inl rP)), (b7, .inl (g.2.1 1, 11, .inl rL)), (b12, .inl (g.2.1 1, 132, .inl rA)), (b13, .inl (g.2.1 1, 132, .inl rB)), (b17, .inl (g.2.1 3, 132, .inl rO)), (b46, .inl (g.2.1 1, 112, .inl tH)), (b47, .inl (g.2.1 1, 16, .inl gR)), (b48, .inl (g.2.1 3, 12, .inl lW))] (fun r u => r = (F_X12_fewestOf rP rA rB rO tH gR lW i lc pe).1 ∧ u = [(h0, .inr (12, vs)), (b6, .inl (g.2.1 1, 11, .inl rP)), (b7, .inl (g.2.1 1, 11, .inl rL)), (b12, .inl (g.2.1 1, 132, .inl rA)), (b13, .inl (g.2.1 1, 132, .inl rB)), (b17, .inl (g.2.1 3, 132, .inl rO)), (b46, .inl (g.2.1 1, 112, .inl ((F_X12_fewestOf rP rA rB rO tH gR lW i lc pe).2.1))), (b47, .inl (g.2.1 1, 16, .inl ((F_X12_fewestOf rP rA rB rO tH gR lW i lc pe).2.2.1))), (b48, .inl (g.2.1 3, 12, .inl ((F_X12_fewestOf rP rA rB rO tH gR lW i lc pe).2.2.2)))]) := by
  refine MetI.of (own := RX12) rfl (by decide) (Nat.le_of_ble_eq_true rfl) ?_
  intro p e s m below meth c A ls args Q hQ X hr hin hW hl
  have hx := X.1
  have hb := X.2.1
  have hl : lv_has ls 4 [(0, .ref h0), (1, .int (nI i))] := hl
  refine lv_aload_n (pc := 0) hx hb dX12_fewestOf_0 rfl (lv_at hl 0 rfl) ?_
  refine r_get X hW 0 ciX12 6 rfl (by decide) m_1237 rfl h6_ dX12_fewestOf_1 ?_
  refine lv_iload_n (pc := 4) hx hb dX12_fewestOf_4 rfl (lv_at hl 1 rfl) ?_
  refine r_iald X hW 1 rfl (vp_in_nI (by omega) (by decide)) dX12_fewestOf_5 ?_
  refine lv_topi (fun v1 ev1 => ?_)
  obtain rfl : v1 = rP i := ev1.trans (by rw [nI_clamp (by omega)])
  rw [hP]
  refine lv_iconst (v := 5) (pc := 6) hx hb dX12_fewestOf_6 (by decide) ?_
  refine lv_icmp_gt (tgt := 18) (pc := 7) hx hb dX12_fewestOf_7 rfl (fun c2 => ?_) (fun c2 => ?_)
  · have h3 : 5 < pe := (nI_ltI (a := 5) (b := pe) (by omega) (by omega)).mp c2
    refine lv_iconst (v := (-1)) (pc := 18) hx hb dX12_fewestOf_18 (by decide) ?_
    have hF : F_X12_fewestOf rP rA rB rO tH gR lW i lc pe = ((-1 : Int32), tH, gR, lW) := show F_X12_fewestOf rP rA rB rO tH gR lW i lc pe = ((-1 : Int32), tH, gR, lW) from by rw [F_X12_fewestOf, if_pos c2]
    exact e_i (u := [(h0, .inr (12, vs)), (b6, .inl (g.2.1 1, 11, .inl rP)), (b7, .inl (g.2.1 1, 11, .inl rL)), (b12, .inl (g.2.1 1, 132, .inl rA)), (b13, .inl (g.2.1 1, 132, .inl rB)), (b17, .inl (g.2.1 3, 132, .inl rO)), (b46, .inl (g.2.1 1, 112, .inl tH)), (b47, .inl (g.2.1 1, 16, .inl gR)), (b48, .inl (g.2.1 3, 12, .inl lW))]) X hQ hr (hW) [0, 1, 2, 3, 4, 5, 6, 7, 8] rfl rfl (⟨(congrArg Prod.fst hF).symm, by rw [hF]⟩) ⟨Nat.le_of_ble_eq_true rfl, Nat.le_of_ble_eq_true rfl⟩ dX12_fewestOf_19
  · have h4 : ¬ (5 < pe) := fun q => c2 ((nI_ltI (a := 5) (b := pe) (by omega) (by omega)).mpr q)
    have hpe5 : pe ≤ 5 := Nat.le_of_not_lt fun q9 => c2 ((nI_ltI (a := 5) (b := pe) (by omega) (by omega)).mpr q9)
    refine lv_aload_n (pc := 10) hx hb dX12_fewestOf_10 rfl (lv_at hl 0 rfl) ?_
    refine lv_iload_n (pc := 11) hx hb dX12_fewestOf_11 rfl (lv_at hl 1 rfl) ?_
    refine c_Vi (pc := 12) (As := [.int (nI i)]) (rest := []) (wr := [(b46, .inl (g.2.1 1, 112, .inl tH)), (b47, .inl (g.2.1 1, 16, .inl gR)), (b48, .inl (g.2.1 3, 12, .inl lW))]) X hW 0 ciX12 rfl (K_X12_holdsAll l g h0 vs b6 rP b7 rL b12 rA b13 rB b17 rO lc i hlen h6_ h7_ h12_ h13_ h17_ (by omega) hlc hL) vX12_349 [0, 1, 2, 3, 4, 5] [6, 7, 8] rfl rfl rfl rfl rfl rfl hl.1 rfl (Nat.le_of_ble_eq_true rfl) ⟨Nat.le_of_ble_eq_true rfl, Nat.le_of_ble_eq_true rfl⟩ ⟨Nat.le_of_ble_eq_true rfl, Nat.le_of_ble_eq_true rfl⟩ dX12_fewestOf_12 (fun r5 u9 H locs hq hW => ?_)
    obtain ⟨rfl, rfl⟩ := hq
    have hW : WD g A s _ _ [(b46, .inl (g.2.1 1, 112, .inl tH)), (b47, .inl (g.2.1 1, 16, .inl gR)), (b48, .inl (g.2.1 3, 12, .inl lW)), (h0, .inr (12, vs)), (b6, .inl (g.2.1 1, 11, .inl rP)), (b7, .inl (g.2.1 1, 11, .inl rL)), (b12, .inl (g.2.1 1, 132, .inl rA)), (b13, .inl (g.2.1 1, 132, .inl rB)), (b17, .inl (g.2.1 3, 132, .inl rO))] := hW
    refine lv_if_ne (tgt := 20) (pc := 15) hx hb dX12_fewestOf_15 rfl (fun c6 => ?_) (fun c6 => ?_)
    · have hal9 := c6
      refine lv_iconst (v := 0) (pc := 20) hx hb dX12_fewestOf_20 (by decide) ?_
      refine lv_istore_n (lv' := [(2, .int 0), (0, .ref h0), (1, .int (nI i))]) (pc := 21) hx hb dX12_fewestOf_21 rfl hl (by decide) rfl (fun ls hl => ?_)
      have loop1 : ∀ (fu1 : Nat) (j1 : Nat) (fb48_1 : Nat → Int32), (lc < fu1 + j1) → (j1 ≤ lc) → (fb48_1 = L1_X12_fewestOf rA rB rO i lW j1) → ∀ (H : Heap) (locs : List Loc) (ls : Array Slot), WD g A s H locs [(b46, .inl (g.2.1 1, 112, .inl tH)), (b47, .inl (g.2.1 1, 16, .inl gR)), (b48, .inl (g.2.1 3, 12, .inl fb48_1)), (h0, .inr (12, vs)), (b6, .inl (g.2.1 1, 11, .inl rP)), (b7, .inl (g.2.1 1, 11, .inl rL)), (b12, .inl (g.2.1 1, 132, .inl rA)), (b13, .inl (g.2.1 1, 132, .inl rB)), (b17, .inl (g.2.1 3, 132, .inl rO))] → lv_has ls 4 [(2, .int (nI j1)), (0, .ref h0), (1, .int (nI i))] → W p l e (RM 16 0 0) s m args below meth c H locs 0 0 Q (F0 m 22 ls []) := by
        intro fu1
        induction fu1 with
        | zero =>
          intro j1 fb48_1 hm1 hj1 hst1
          exact absurd hm1 (by omega)
        | succ fu1 ih1 =>
          intro j1 fb48_1 hm1 hj1 hst1 H locs ls hW hl
          refine lv_iload_n (pc := 22) hx hb dX12_fewestOf_22 rfl (lv_at hl 0 rfl) ?_
          refine lv_aload_n (pc := 23) hx hb dX12_fewestOf_23 rfl (lv_at hl 1 rfl) ?_
          refine r_get X hW 3 ciX12 7 rfl (by decide) m_1238 rfl h7_ dX12_fewestOf_24 ?_
          refine lv_iload_n (pc := 27) hx hb dX12_fewestOf_27 rfl (lv_at hl 2 rfl) ?_
          refine r_iald X hW 5 rfl (vp_in_nI (by omega) (by decide)) dX12_fewestOf_28 ?_
          refine lv_topi (fun v8 ev8 => ?_)
          obtain rfl : v8 = rL i := ev8.trans (by rw [nI_clamp (by omega)])
          rw [hL]
          refine lv_icmp_ge (tgt := 127) (pc := 29) hx hb dX12_fewestOf_29 rfl (fun c9 => ?_) (fun c9 => ?_)
          · have h10 : lc ≤ j1 := (nI_leI (a := lc) (b := j1) (by omega) (by omega)).mp c9
            have hN1 : j1 = lc := by omega
            rw [hN1] at hst1
            subst hst1
            have hW : WD g A s _ _ [(b46, .inl (g.2.1 1, 112, .inl tH)), (b47, .inl (g.2.1 1, 16, .inl gR)), (b48, .inl (g.2.1 3, 12, .inl (L1_X12_fewestOf rA rB rO i lW lc))), (h0, .inr (12, vs)), (b6, .inl (g.2.1 1, 11, .inl rP)), (b7, .inl (g.2.1 1, 11, .inl rL)), (b12, .inl (g.2.1 1, 132, .inl rA)), (b13, .inl (g.2.1 1, 132, .inl rB)), (b17, .inl (g.2.1 3, 132, .inl rO))] := hW
            refine lv_iconst (v := 0) (pc := 127) hx hb dX12_fewestOf_127 (by decide) ?_
            refine lv_istore_n (lv' := [(2, .int 0), (0, .ref h0), (1, .int (nI i))]) (pc := 128) hx hb dX12_fewestOf_128 rfl hl (by decide) rfl (fun ls hl => ?_)
            have loop2 : ∀ (fu2 : Nat) (j2 : Nat) (fb46_2 : Nat → Int32), (pe < fu2 + j2) → (j2 ≤ pe) → (fb46_2 = L2_X12_fewestOf tH j2) → ∀ (H : Heap) (locs : List Loc) (ls : Array Slot), WD g A s H locs [(b46, .inl (g.2.1 1, 112, .inl fb46_2)), (b47, .inl (g.2.1 1, 16, .inl gR)), (b48, .inl (g.2.1 3, 12, .inl (L1_X12_fewestOf rA rB rO i lW lc))), (h0, .inr (12, vs)), (b6, .inl (g.2.1 1, 11, .inl rP)), (b7, .inl (g.2.1 1, 11, .inl rL)), (b12, .inl (g.2.1 1, 132, .inl rA)), (b13, .inl (g.2.1 1, 132, .inl rB)), (b17, .inl (g.2.1 3, 132, .inl rO))] → lv_has ls 4 [(2, .int (nI j2)), (0, .ref h0), (1, .int (nI i))] → W p l e (RM 16 0 0) s m args below meth c H locs 0 0 Q (F0 m 129 ls []) := by
              intro fu2
              induction fu2 with
              | zero =>
                intro j2 fb46_2 hm2 hj2 hst2
                exact absurd hm2 (by omega)
              | succ fu2 ih2 =>
                intro j2 fb46_2 hm2 hj2 hst2 H locs ls hW hl
                refine lv_iload_n (pc := 129) hx hb dX12_fewestOf_129 rfl (lv_at hl 0 rfl) ?_
                refine lv_aload_n (pc := 130) hx hb dX12_fewestOf_130 rfl (lv_at hl 1 rfl) ?_
                refine r_get X hW 3 ciX12 6 rfl (by decide) m_1237 rfl h6_ dX12_fewestOf_131 ?_
                refine lv_iload_n (pc := 134) hx hb dX12_fewestOf_134 rfl (lv_at hl 2 rfl) ?_
                refine r_iald X hW 4 rfl (vp_in_nI (by omega) (by decide)) dX12_fewestOf_135 ?_
                refine lv_topi (fun v11 ev11 => ?_)
                obtain rfl : v11 = rP i := ev11.trans (by rw [nI_clamp (by omega)])
                rw [hP]
                refine lv_icmp_ge (tgt := 154) (pc := 136) hx hb dX12_fewestOf_136 rfl (fun c12 => ?_) (fun c12 => ?_)
                · have h13 : pe ≤ j2 := (nI_leI (a := pe) (b := j2) (by omega) (by omega)).mp c12
                  have hN2 : j2 = pe := by omega
                  rw [hN2] at hst2
                  subst hst2
                  have hW : WD g A s _ _ [(b46, .inl (g.2.1 1, 112, .inl (L2_X12_fewestOf tH pe))), (b47, .inl (g.2.1 1, 16, .inl gR)), (b48, .inl (g.2.1 3, 12, .inl (L1_X12_fewestOf rA rB rO i lW lc))), (h0, .inr (12, vs)), (b6, .inl (g.2.1 1, 11, .inl rP)), (b7, .inl (g.2.1 1, 11, .inl rL)), (b12, .inl (g.2.1 1, 132, .inl rA)), (b13, .inl (g.2.1 1, 132, .inl rB)), (b17, .inl (g.2.1 3, 132, .inl rO))] := hW
                  refine lv_iconst (v := 0) (pc := 154) hx hb dX12_fewestOf_154 (by decide) ?_
                  refine lv_istore_n (lv' := [(2, .int 0), (0, .ref h0), (1, .int (nI i))]) (pc := 155) hx hb dX12_fewestOf_155 rfl hl (by decide) rfl (fun ls hl => ?_)
                  have loop3 : ∀ (fu3 : Nat) (j3 : Nat) (fb46_3 : Nat → Int32) (fb47_3 : Nat → Int32), (7 < fu3 + j3) → (j3 ≤ 7) → (∀ o : Nat, o < pe → fb46_3 o = (1 : Int32) <<< (nI o &&& 31)) → (L3_X12_fewestOf rP rA rB rO lW i lc pe fu3 j3 fb46_3 fb47_3 = F_X12_fewestOf rP rA rB rO tH gR lW i lc pe) → ∀ (H : Heap) (locs : List Loc) (ls : Array Slot), WD g A s H locs [(b46, .inl (g.2.1 1, 112, .inl fb46_3)), (b47, .inl (g.2.1 1, 16, .inl fb47_3)), (b48, .inl (g.2.1 3, 12, .inl (L1_X12_fewestOf rA rB rO i lW lc))), (h0, .inr (12, vs)), (b6, .inl (g.2.1 1, 11, .inl rP)), (b7, .inl (g.2.1 1, 11, .inl rL)), (b12, .inl (g.2.1 1, 132, .inl rA)), (b13, .inl (g.2.1 1, 132, .inl rB)), (b17, .inl (g.2.1 3, 132, .inl rO))] → lv_has ls 4 [(2, .int (nI j3)), (0, .ref h0), (1, .int (nI i))] → W p l e (RM 16 0 0) s m args below meth c H locs 0 0 Q (F0 m 156 ls []) := by
                    intro fu3
                    induction fu3 with
                    | zero =>
                      intro j3 fb46_3 fb47_3 hm3 hj3 hT9 hst3
                      exact absurd hm3 (by omega)
                    | succ fu3 ih3 =>
                      intro j3 fb46_3 fb47_3 hm3 hj3 hT9 hst3 H locs ls hW hl
                      refine lv_aload_n (pc := 156) hx hb dX12_fewestOf_156 rfl (lv_at hl 1 rfl) ?_
                      refine lv_iload_n (pc := 157) hx hb dX12_fewestOf_157 rfl (lv_at hl 2 rfl) ?_
                      refine lv_iconst (v := 0) (pc := 158) hx hb dX12_fewestOf_158 (by decide) ?_
                      refine lv_iload_n (pc := 159) hx hb dX12_fewestOf_159 rfl (lv_at hl 0 rfl) ?_
                      refine c_Vi (pc := 160) (As := [.int (nI i), .int 0, .int (nI j3)]) (rest := []) (wr := [(b17, .inl (g.2.1 3, 132, .inl rO))]) X hW 3 ciX12 rfl (K_gp0 l g h0 vs b6 rP b7 rL b12 rA b13 rB b46 b47 b48 (L1_X12_fewestOf rA rB rO i lW lc) i lc pe hlen h6_ h7_ h12_ h13_ h46_ h47_ h48_ (by omega) hlc hL hpe5 hP hA hB j3 (by omega) fb46_3 fb47_3) vX12_346 [3, 4, 5, 6, 7, 0, 1, 2] [8] rfl rfl rfl rfl rfl rfl hl.1 rfl (Nat.le_of_ble_eq_true rfl) ⟨Nat.le_of_ble_eq_true rfl, Nat.le_of_ble_eq_true rfl⟩ ⟨Nat.le_of_ble_eq_true rfl, Nat.le_of_ble_eq_true rfl⟩ dX12_fewestOf_160 (fun r14 u9 H locs hq hW => ?_)
                      obtain ⟨rfl, rfl⟩ := hq
                      have hW : WD g A s _ _ [(b17, .inl (g.2.1 3, 132, .inl rO)), (h0, .inr (12, vs)), (b6, .inl (g.2.1 1, 11, .inl rP)), (b7, .inl (g.2.1 1, 11, .inl rL)), (b12, .inl (g.2.1 1, 132, .inl rA)), (b13, .inl (g.2.1 1, 132, .inl rB)), (b46, .inl (g.2.1 1, 112, .inl ((GP rP rA rB (L1_X12_fewestOf rA rB rO i lW lc) i lc pe j3 0 fb46_3 fb47_3).2.1))), (b47, .inl (g.2.1 1, 16, .inl ((GP rP rA rB (L1_X12_fewestOf rA rB rO i lW lc) i lc pe j3 0 fb46_3 fb47_3).2.2))), (b48, .inl (g.2.1 3, 12, .inl (L1_X12_fewestOf rA rB rO i lW lc)))] := hW
                      refine lv_if_ne (tgt := 172) (pc := 163) hx hb dX12_fewestOf_163 rfl (fun c15 => ?_) (fun c15 => ?_)
                      · refine lv_iload_n (pc := 172) hx hb dX12_fewestOf_172 rfl (lv_at hl 0 rfl) ?_
                        have hF : F_X12_fewestOf rP rA rB rO tH gR lW i lc pe = (nI j3, (GP rP rA rB (L1_X12_fewestOf rA rB rO i lW lc) i lc pe j3 0 fb46_3 fb47_3).2.1, (GP rP rA rB (L1_X12_fewestOf rA rB rO i lW lc) i lc pe j3 0 fb46_3 fb47_3).2.2, (L1_X12_fewestOf rA rB rO i lW lc)) := hst3.symm.trans (show L3_X12_fewestOf rP rA rB rO lW i lc pe (fu3 + 1) j3 fb46_3 fb47_3 = (nI j3, (GP rP rA rB (L1_X12_fewestOf rA rB rO i lW lc) i lc pe j3 0 fb46_3 fb47_3).2.1, (GP rP rA rB (L1_X12_fewestOf rA rB rO i lW lc) i lc pe j3 0 fb46_3 fb47_3).2.2, (L1_X12_fewestOf rA rB rO i lW lc)) from by rw [L3_X12_fewestOf, if_neg c15])
                        exact e_i (u := [(h0, .inr (12, vs)), (b6, .inl (g.2.1 1, 11, .inl rP)), (b7, .inl (g.2.1 1, 11, .inl rL)), (b12, .inl (g.2.1 1, 132, .inl rA)), (b13, .inl (g.2.1 1, 132, .inl rB)), (b17, .inl (g.2.1 3, 132, .inl rO)), (b46, .inl (g.2.1 1, 112, .inl ((GP rP rA rB (L1_X12_fewestOf rA rB rO i lW lc) i lc pe j3 0 fb46_3 fb47_3).2.1))), (b47, .inl (g.2.1 1, 16, .inl ((GP rP rA rB (L1_X12_fewestOf rA rB rO i lW lc) i lc pe j3 0 fb46_3 fb47_3).2.2))), (b48, .inl (g.2.1 3, 12, .inl (L1_X12_fewestOf rA rB rO i lW lc)))]) X hQ hr (hW) [1, 2, 3, 4, 5, 0, 6, 7, 8] rfl rfl (⟨(congrArg Prod.fst hF).symm, by rw [hF]⟩) ⟨Nat.le_of_ble_eq_true rfl, Nat.le_of_ble_eq_true rfl⟩ dX12_fewestOf_173
                      · have hj9 := hfin j3 _ _ (by omega) hT9 hpe5 hal9 c15
                        refine lv_iinc (v := nI (j3 + 1)) (lv' := [(2, .int (nI (j3 + 1))), (0, .ref h0), (1, .int (nI i))]) (pc := 166) hx hb dX12_fewestOf_166 hl (k := 0) rfl (nI_add j3 1) (by decide) rfl (fun ls hl => ?_)
                        refine lv_goto (tgt := 156) (pc := 169) hx hb dX12_fewestOf_169 rfl ?_
                        have hW : WD g A s _ _ [(b46, .inl (g.2.1 1, 112, .inl ((GP rP rA rB (L1_X12_fewestOf rA rB rO i lW lc) i lc pe j3 0 fb46_3 fb47_3).2.1))), (b47, .inl (g.2.1 1, 16, .inl ((GP rP rA rB (L1_X12_fewestOf rA rB rO i lW lc) i lc pe j3 0 fb46_3 fb47_3).2.2))), (b48, .inl (g.2.1 3, 12, .inl (L1_X12_fewestOf rA rB rO i lW lc))), (h0, .inr (12, vs)), (b6, .inl (g.2.1 1, 11, .inl rP)), (b7, .inl (g.2.1 1, 11, .inl rL)), (b12, .inl (g.2.1 1, 132, .inl rA)), (b13, .inl (g.2.1 1, 132, .inl rB)), (b17, .inl (g.2.1 3, 132, .inl rO))] := hW.pick [6, 7, 8, 1, 2, 3, 4, 5, 0] rfl rfl
                        exact ih3 (j3 + 1) ((GP rP rA rB (L1_X12_fewestOf rA rB rO i lW lc) i lc pe j3 0 fb46_3 fb47_3).2.1) ((GP rP rA rB (L1_X12_fewestOf rA rB rO i lW lc) i lc pe j3 0 fb46_3 fb47_3).2.2) (by omega) (by omega) (fun o ho => (hkp _ _ _ _ o (by omega) (by omega)).trans (hT9 o ho)) ((show L3_X12_fewestOf rP rA rB rO lW i lc pe (fu3 + 1) j3 fb46_3 fb47_3 = L3_X12_fewestOf rP rA rB rO lW i lc pe fu3 (j3 + 1) ((GP rP rA rB (L1_X12_fewestOf rA rB rO i lW lc) i lc pe j3 0 fb46_3 fb47_3).2.1) ((GP rP rA rB (L1_X12_fewestOf rA rB rO i lW lc) i lc pe j3 0 fb46_3 fb47_3).2.2) from by rw [L3_X12_fewestOf, if_pos c15]).symm.trans hst3) _ _ _ hW (lv_sub hl [0, 1, 2] rfl)
                  exact loop3 (7 + 1) 0 (L2_X12_fewestOf tH pe) gR (by omega) (by omega) (fun o ho => th_1 pe o ho) (show F_X12_fewestOf rP rA rB rO tH gR lW i lc pe = L3_X12_fewestOf rP rA rB rO lW i lc pe (7 + 1) 0 (L2_X12_fewestOf tH pe) gR from by rw [F_X12_fewestOf, if_neg c2, if_neg c6]).symm _ _ _ hW (lv_sub hl [0, 1, 2] rfl)
                · have h18 : ¬ (pe ≤ j2) := fun q => c12 ((nI_leI (a := pe) (b := j2) (by omega) (by omega)).mpr q)
                  refine lv_aload_n (pc := 139) hx hb dX12_fewestOf_139 rfl (lv_at hl 1 rfl) ?_
                  refine r_get X hW 3 ciX12 46 rfl (by decide) m_1273 rfl h46_ dX12_fewestOf_140 ?_
                  refine lv_iload_n (pc := 143) hx hb dX12_fewestOf_143 rfl (lv_at hl 0 rfl) ?_
                  refine lv_iconst (v := 1) (pc := 144) hx hb dX12_fewestOf_144 (by decide) ?_
                  refine lv_iload_n (pc := 145) hx hb dX12_fewestOf_145 rfl (lv_at hl 0 rfl) ?_
                  refine lv_ishl (pc := 146) hx hb dX12_fewestOf_146 ?_
                  refine r_iast (ws' := [(b46, .inl (g.2.1 1, 112, .inl (upd fb46_2 j2 ((1 : Int32) <<< ((nI j2) &&& 31))))), (b47, .inl (g.2.1 1, 16, .inl gR)), (b48, .inl (g.2.1 3, 12, .inl (L1_X12_fewestOf rA rB rO i lW lc))), (h0, .inr (12, vs)), (b6, .inl (g.2.1 1, 11, .inl rP)), (b7, .inl (g.2.1 1, 11, .inl rL)), (b12, .inl (g.2.1 1, 132, .inl rA)), (b13, .inl (g.2.1 1, 132, .inl rB)), (b17, .inl (g.2.1 3, 132, .inl rO))]) X hW 0 rfl (vp_in_nI (by omega) (by decide)) (f' := (upd fb46_2 j2 ((1 : Int32) <<< ((nI j2) &&& 31)))) (by rw [nI_clamp (by omega)]) rfl dX12_fewestOf_147 (fun H locs hW => ?_)
                  refine lv_iinc (v := nI (j2 + 1)) (lv' := [(2, .int (nI (j2 + 1))), (0, .ref h0), (1, .int (nI i))]) (pc := 148) hx hb dX12_fewestOf_148 hl (k := 0) rfl (nI_add j2 1) (by decide) rfl (fun ls hl => ?_)
                  refine lv_goto (tgt := 129) (pc := 151) hx hb dX12_fewestOf_151 rfl ?_
                  exact ih2 (j2 + 1) (upd fb46_2 j2 ((1 : Int32) <<< ((nI j2) &&& 31))) (by omega) (by omega) (by rw [L2_X12_fewestOf, ← hst2]; exact (show L2_X12_fewestOfs  j2 fb46_2 = (upd fb46_2 j2 ((1 : Int32) <<< ((nI j2) &&& 31))) from rfl).symm) _ _ _ hW (lv_sub hl [0, 1, 2] rfl)
            exact loop2 (pe + 1) 0 tH (by omega) (by omega) rfl _ _ _ hW (lv_sub hl [0, 1, 2] rfl)
          · have h19 : ¬ (lc ≤ j1) := fun q => c9 ((nI_leI (a := lc) (b := j1) (by omega) (by omega)).mpr q)
            refine lv_aload_n (pc := 32) hx hb dX12_fewestOf_32 rfl (lv_at hl 1 rfl) ?_
            refine r_get X hW 3 ciX12 48 rfl (by decide) m_1275 rfl h48_ dX12_fewestOf_33 ?_
            refine lv_iload_n (pc := 36) hx hb dX12_fewestOf_36 rfl (lv_at hl 0 rfl) ?_
            refine lv_aload_n (pc := 37) hx hb dX12_fewestOf_37 rfl (lv_at hl 1 rfl) ?_
            refine r_get X hW 3 ciX12 17 rfl (by decide) m_1248 rfl h17_ dX12_fewestOf_38 ?_
            refine lv_bipush (v := 12) (pc := 41) hx hb dX12_fewestOf_41 (by decide) ?_
            refine lv_iload_n (pc := 43) hx hb dX12_fewestOf_43 rfl (lv_at hl 2 rfl) ?_
            refine lv_imul (pc := 44) hx hb dX12_fewestOf_44 ?_
            refine lv_topi (fun v20 ev20 => ?_)
            obtain rfl : v20 = nI (12 * i) := ev20.trans (pk_mul 12 i)
            refine lv_iload_n (pc := 45) hx hb dX12_fewestOf_45 rfl (lv_at hl 0 rfl) ?_
            refine lv_iadd (pc := 46) hx hb dX12_fewestOf_46 ?_
            refine lv_topi (fun v21 ev21 => ?_)
            obtain rfl : v21 = nI (12 * i + j1) := ev21.trans (nI_add _ _)
            refine r_zald X hW 8 rfl (vp_in_nI (by omega) (by decide)) dX12_fewestOf_47 ?_
            refine lv_topi (fun v22 ev22 => ?_)
            obtain rfl : v22 = rO (12 * i + j1) := ev22.trans (by rw [nI_clamp (by omega)])
            refine lv_if_ne (tgt := 55) (pc := 48) hx hb dX12_fewestOf_48 rfl (fun c23 => ?_) (fun c23 => ?_)
            · refine lv_iconst (v := 0) (pc := 55) hx hb dX12_fewestOf_55 (by decide) ?_
              refine r_zast (ws' := [(b46, .inl (g.2.1 1, 112, .inl tH)), (b47, .inl (g.2.1 1, 16, .inl gR)), (b48, .inl (g.2.1 3, 12, .inl (upd fb48_1 j1 (0 : Int32)))), (h0, .inr (12, vs)), (b6, .inl (g.2.1 1, 11, .inl rP)), (b7, .inl (g.2.1 1, 11, .inl rL)), (b12, .inl (g.2.1 1, 132, .inl rA)), (b13, .inl (g.2.1 1, 132, .inl rB)), (b17, .inl (g.2.1 3, 132, .inl rO))]) X hW 2 rfl (vp_in_nI (by omega) (by decide)) (f' := (upd fb48_1 j1 (0 : Int32))) (by rw [nI_clamp (by omega), show vp_nar .boolean (0 : Int32) = (0 : Int32) from by decide]) rfl dX12_fewestOf_56 (fun H locs hW => ?_)
              refine lv_iconst (v := 0) (pc := 57) hx hb dX12_fewestOf_57 (by decide) ?_
              refine lv_istore_n (lv' := [(3, .int 0), (2, .int (nI j1)), (0, .ref h0), (1, .int (nI i))]) (pc := 58) hx hb dX12_fewestOf_58 rfl hl (by decide) rfl (fun ls hl => ?_)
              have loop4 : ∀ (fu4 : Nat) (j4 : Nat) (fb48_4 : Nat → Int32), (j1 < fu4 + j4) → (j4 ≤ j1) → (fb48_4 = L4_X12_fewestOf rA rB rO i j1 (upd fb48_1 j1 (0 : Int32)) j4) → ∀ (H : Heap) (locs : List Loc) (ls : Array Slot), WD g A s H locs [(b46, .inl (g.2.1 1, 112, .inl tH)), (b47, .inl (g.2.1 1, 16, .inl gR)), (b48, .inl (g.2.1 3, 12, .inl fb48_4)), (h0, .inr (12, vs)), (b6, .inl (g.2.1 1, 11, .inl rP)), (b7, .inl (g.2.1 1, 11, .inl rL)), (b12, .inl (g.2.1 1, 132, .inl rA)), (b13, .inl (g.2.1 1, 132, .inl rB)), (b17, .inl (g.2.1 3, 132, .inl rO))] → lv_has ls 4 [(3, .int (nI j4)), (2, .int (nI j1)), (0, .ref h0), (1, .int (nI i))] → W p l e (RM 16 0 0) s m args below meth c H locs 0 0 Q (F0 m 59 ls []) := by
                intro fu4
                induction fu4 with
                | zero =>
                  intro j4 fb48_4 hm4 hj4 hst4
                  exact absurd hm4 (by omega)
                | succ fu4 ih4 =>
                  intro j4 fb48_4 hm4 hj4 hst4 H locs ls hW hl
                  refine lv_iload_n (pc := 59) hx hb dX12_fewestOf_59 rfl (lv_at hl 0 rfl) ?_
                  refine lv_iload_n (pc := 60) hx hb dX12_fewestOf_60 rfl (lv_at hl 1 rfl) ?_
                  refine lv_icmp_ge (tgt := 121) (pc := 61) hx hb dX12_fewestOf_61 rfl (fun c25 => ?_) (fun c25 => ?_)
                  · have h26 : j1 ≤ j4 := (nI_leI (a := j1) (b := j4) (by omega) (by omega)).mp c25
                    have hN4 : j4 = j1 := by omega
                    rw [hN4] at hst4
                    subst hst4
                    have hW : WD g A s _ _ [(b46, .inl (g.2.1 1, 112, .inl tH)), (b47, .inl (g.2.1 1, 16, .inl gR)), (b48, .inl (g.2.1 3, 12, .inl (L4_X12_fewestOf rA rB rO i j1 (upd fb48_1 j1 (0 : Int32)) j1))), (h0, .inr (12, vs)), (b6, .inl (g.2.1 1, 11, .inl rP)), (b7, .inl (g.2.1 1, 11, .inl rL)), (b12, .inl (g.2.1 1, 132, .inl rA)), (b13, .inl (g.2.1 1, 132, .inl rB)), (b17, .inl (g.2.1 3, 132, .inl rO))] := hW
                    refine lv_iinc (v := nI (j1 + 1)) (lv' := [(2, .int (nI (j1 + 1))), (3, .int (nI j4)), (0, .ref h0), (1, .int (nI i))]) (pc := 121) hx hb dX12_fewestOf_121 hl (k := 1) rfl (nI_add j1 1) (by decide) rfl (fun ls hl => ?_)
                    refine lv_goto (tgt := 22) (pc := 124) hx hb dX12_fewestOf_124 rfl ?_
                    exact ih1 (j1 + 1) (L4_X12_fewestOf rA rB rO i j1 (upd fb48_1 j1 (0 : Int32)) j1) (by omega) (by omega) (by rw [L1_X12_fewestOf, ← hst1]; exact (show L1_X12_fewestOfs rA rB rO i j1 fb48_1 = (L4_X12_fewestOf rA rB rO i j1 (upd fb48_1 j1 (0 : Int32)) j1) from by rw [L1_X12_fewestOfs, if_neg c23]).symm) _ _ _ hW (lv_sub hl [0, 2, 3] rfl)
                  · have h27 : ¬ (j1 ≤ j4) := fun q => c25 ((nI_leI (a := j1) (b := j4) (by omega) (by omega)).mpr q)
                    refine lv_aload_n (pc := 64) hx hb dX12_fewestOf_64 rfl (lv_at hl 2 rfl) ?_
                    refine r_get X hW 3 ciX12 48 rfl (by decide) m_1275 rfl h48_ dX12_fewestOf_65 ?_
                    refine lv_iload_n (pc := 68) hx hb dX12_fewestOf_68 rfl (lv_at hl 0 rfl) ?_
                    refine r_zald X hW 2 rfl (vp_in_nI (by omega) (by decide)) dX12_fewestOf_69 ?_
                    refine lv_topi (fun v28 ev28 => ?_)
                    obtain rfl : v28 = fb48_4 j4 := ev28.trans (by rw [nI_clamp (by omega)])
                    refine lv_if_eq (tgt := 115) (pc := 70) hx hb dX12_fewestOf_70 rfl (fun c29 => ?_) (fun c29 => ?_)
                    · refine lv_iinc (v := nI (j4 + 1)) (lv' := [(3, .int (nI (j4 + 1))), (2, .int (nI j1)), (0, .ref h0), (1, .int (nI i))]) (pc := 115) hx hb dX12_fewestOf_115 hl (k := 0) rfl (nI_add j4 1) (by decide) rfl (fun ls hl => ?_)
                      refine lv_goto (tgt := 59) (pc := 118) hx hb dX12_fewestOf_118 rfl ?_
                      exact ih4 (j4 + 1) fb48_4 (by omega) (by omega) (by rw [L4_X12_fewestOf, ← hst4]; exact (show L4_X12_fewestOfs rA rB rO i j1 j4 fb48_4 = fb48_4 from by rw [L4_X12_fewestOfs, if_pos c29]).symm) _ _ _ hW (lv_sub hl [0, 1, 2, 3] rfl)
                    · refine lv_aload_n (pc := 73) hx hb dX12_fewestOf_73 rfl (lv_at hl 2 rfl) ?_
                      refine lv_bipush (v := 12) (pc := 74) hx hb dX12_fewestOf_74 (by decide) ?_
                      refine lv_iload_n (pc := 76) hx hb dX12_fewestOf_76 rfl (lv_at hl 3 rfl) ?_
                      refine lv_imul (pc := 77) hx hb dX12_fewestOf_77 ?_
                      refine lv_topi (fun v32 ev32 => ?_)
                      obtain rfl : v32 = nI (12 * i) := ev32.trans (pk_mul 12 i)
                      refine lv_iload_n (pc := 78) hx hb dX12_fewestOf_78 rfl (lv_at hl 0 rfl) ?_
                      refine lv_iadd (pc := 79) hx hb dX12_fewestOf_79 ?_
                      refine lv_topi (fun v33 ev33 => ?_)
                      obtain rfl : v33 = nI (12 * i + j4) := ev33.trans (nI_add _ _)
                      refine lv_aload_n (pc := 80) hx hb dX12_fewestOf_80 rfl (lv_at hl 2 rfl) ?_
                      refine r_get X hW 3 ciX12 12 rfl (by decide) m_1243 rfl h12_ dX12_fewestOf_81 ?_
                      refine lv_bipush (v := 12) (pc := 84) hx hb dX12_fewestOf_84 (by decide) ?_
                      refine lv_iload_n (pc := 86) hx hb dX12_fewestOf_86 rfl (lv_at hl 3 rfl) ?_
                      refine lv_imul (pc := 87) hx hb dX12_fewestOf_87 ?_
                      refine lv_topi (fun v34 ev34 => ?_)
                      obtain rfl : v34 = nI (12 * i) := ev34.trans (pk_mul 12 i)
                      refine lv_iload_n (pc := 88) hx hb dX12_fewestOf_88 rfl (lv_at hl 1 rfl) ?_
                      refine lv_iadd (pc := 89) hx hb dX12_fewestOf_89 ?_
                      refine lv_topi (fun v35 ev35 => ?_)
                      obtain rfl : v35 = nI (12 * i + j1) := ev35.trans (nI_add _ _)
                      refine r_iald X hW 6 rfl (vp_in_nI (by omega) (by decide)) dX12_fewestOf_90 ?_
                      refine lv_topi (fun v36 ev36 => ?_)
                      obtain rfl : v36 = rA (12 * i + j1) := ev36.trans (by rw [nI_clamp (by omega)])
                      refine lv_aload_n (pc := 91) hx hb dX12_fewestOf_91 rfl (lv_at hl 2 rfl) ?_
                      refine r_get X hW 3 ciX12 13 rfl (by decide) m_1244 rfl h13_ dX12_fewestOf_92 ?_
                      refine lv_bipush (v := 12) (pc := 95) hx hb dX12_fewestOf_95 (by decide) ?_
                      refine lv_iload_n (pc := 97) hx hb dX12_fewestOf_97 rfl (lv_at hl 3 rfl) ?_
                      refine lv_imul (pc := 98) hx hb dX12_fewestOf_98 ?_
                      refine lv_topi (fun v37 ev37 => ?_)
                      obtain rfl : v37 = nI (12 * i) := ev37.trans (pk_mul 12 i)
                      refine lv_iload_n (pc := 99) hx hb dX12_fewestOf_99 rfl (lv_at hl 1 rfl) ?_
                      refine lv_iadd (pc := 100) hx hb dX12_fewestOf_100 ?_
                      refine lv_topi (fun v38 ev38 => ?_)
                      obtain rfl : v38 = nI (12 * i + j1) := ev38.trans (nI_add _ _)
                      refine r_iald X hW 7 rfl (vp_in_nI (by omega) (by decide)) dX12_fewestOf_101 ?_
                      refine lv_topi (fun v39 ev39 => ?_)
                      obtain rfl : v39 = rB (12 * i + j1) := ev39.trans (by rw [nI_clamp (by omega)])
                      refine c_Vi (pc := 102) (As := [.int (nI (12 * i + j4)), .int (rA (12 * i + j1)), .int (rB (12 * i + j1))]) (rest := []) (wr := [(b46, .inl (g.2.1 1, 112, .inl tH)), (b47, .inl (g.2.1 1, 16, .inl gR)), (b48, .inl (g.2.1 3, 12, .inl fb48_4)), (b6, .inl (g.2.1 1, 11, .inl rP)), (b7, .inl (g.2.1 1, 11, .inl rL))]) X hW 3 ciX12 rfl (K_X12_joins l g h0 vs b12 rA b13 rB b17 rO (12 * i + j4) (rA (12 * i + j1)) (rB (12 * i + j1)) hlen h12_ h13_ h17_ (by omega)) vX12_231 [3, 6, 7, 8] [0, 1, 2, 4, 5] rfl rfl rfl rfl rfl rfl hl.1 rfl (Nat.le_of_ble_eq_true rfl) ⟨Nat.le_of_ble_eq_true rfl, Nat.le_of_ble_eq_true rfl⟩ ⟨Nat.le_of_ble_eq_true rfl, Nat.le_of_ble_eq_true rfl⟩ dX12_fewestOf_102 (fun r40 u9 H locs hq hW => ?_)
                      obtain ⟨rfl, rfl⟩ := hq
                      have hW : WD g A s _ _ [(b46, .inl (g.2.1 1, 112, .inl tH)), (b47, .inl (g.2.1 1, 16, .inl gR)), (b48, .inl (g.2.1 3, 12, .inl fb48_4)), (b6, .inl (g.2.1 1, 11, .inl rP)), (b7, .inl (g.2.1 1, 11, .inl rL)), (h0, .inr (12, vs)), (b12, .inl (g.2.1 1, 132, .inl rA)), (b13, .inl (g.2.1 1, 132, .inl rB)), (b17, .inl (g.2.1 3, 132, .inl rO))] := hW
                      refine lv_if_eq (tgt := 115) (pc := 105) hx hb dX12_fewestOf_105 rfl (fun c41 => ?_) (fun c41 => ?_)
                      · refine lv_iinc (v := nI (j4 + 1)) (lv' := [(3, .int (nI (j4 + 1))), (2, .int (nI j1)), (0, .ref h0), (1, .int (nI i))]) (pc := 115) hx hb dX12_fewestOf_115 hl (k := 0) rfl (nI_add j4 1) (by decide) rfl (fun ls hl => ?_)
                        refine lv_goto (tgt := 59) (pc := 118) hx hb dX12_fewestOf_118 rfl ?_
                        have hW : WD g A s _ _ [(b46, .inl (g.2.1 1, 112, .inl tH)), (b47, .inl (g.2.1 1, 16, .inl gR)), (b48, .inl (g.2.1 3, 12, .inl fb48_4)), (h0, .inr (12, vs)), (b6, .inl (g.2.1 1, 11, .inl rP)), (b7, .inl (g.2.1 1, 11, .inl rL)), (b12, .inl (g.2.1 1, 132, .inl rA)), (b13, .inl (g.2.1 1, 132, .inl rB)), (b17, .inl (g.2.1 3, 132, .inl rO))] := hW.pick [0, 1, 2, 5, 3, 4, 6, 7, 8] rfl rfl
                        exact ih4 (j4 + 1) fb48_4 (by omega) (by omega) (by rw [L4_X12_fewestOf, ← hst4]; exact (show L4_X12_fewestOfs rA rB rO i j1 j4 fb48_4 = fb48_4 from by rw [L4_X12_fewestOfs, if_neg c29, if_pos c41]).symm) _ _ _ hW (lv_sub hl [0, 1, 2, 3] rfl)
                      · refine lv_aload_n (pc := 108) hx hb dX12_fewestOf_108 rfl (lv_at hl 2 rfl) ?_
                        refine r_get X hW 5 ciX12 48 rfl (by decide) m_1275 rfl h48_ dX12_fewestOf_109 ?_
                        refine lv_iload_n (pc := 112) hx hb dX12_fewestOf_112 rfl (lv_at hl 1 rfl) ?_
                        refine lv_iconst (v := 0) (pc := 113) hx hb dX12_fewestOf_113 (by decide) ?_
                        refine r_zast (ws' := [(b46, .inl (g.2.1 1, 112, .inl tH)), (b47, .inl (g.2.1 1, 16, .inl gR)), (b48, .inl (g.2.1 3, 12, .inl (upd fb48_4 j1 (0 : Int32)))), (b6, .inl (g.2.1 1, 11, .inl rP)), (b7, .inl (g.2.1 1, 11, .inl rL)), (h0, .inr (12, vs)), (b12, .inl (g.2.1 1, 132, .inl rA)), (b13, .inl (g.2.1 1, 132, .inl rB)), (b17, .inl (g.2.1 3, 132, .inl rO))]) X hW 2 rfl (vp_in_nI (by omega) (by decide)) (f' := (upd fb48_4 j1 (0 : Int32))) (by rw [nI_clamp (by omega), show vp_nar .boolean (0 : Int32) = (0 : Int32) from by decide]) rfl dX12_fewestOf_114 (fun H locs hW => ?_)
                        refine lv_iinc (v := nI (j4 + 1)) (lv' := [(3, .int (nI (j4 + 1))), (2, .int (nI j1)), (0, .ref h0), (1, .int (nI i))]) (pc := 115) hx hb dX12_fewestOf_115 hl (k := 0) rfl (nI_add j4 1) (by decide) rfl (fun ls hl => ?_)
                        refine lv_goto (tgt := 59) (pc := 118) hx hb dX12_fewestOf_118 rfl ?_
                        have hW : WD g A s _ _ [(b46, .inl (g.2.1 1, 112, .inl tH)), (b47, .inl (g.2.1 1, 16, .inl gR)), (b48, .inl (g.2.1 3, 12, .inl (upd fb48_4 j1 (0 : Int32)))), (h0, .inr (12, vs)), (b6, .inl (g.2.1 1, 11, .inl rP)), (b7, .inl (g.2.1 1, 11, .inl rL)), (b12, .inl (g.2.1 1, 132, .inl rA)), (b13, .inl (g.2.1 1, 132, .inl rB)), (b17, .inl (g.2.1 3, 132, .inl rO))] := hW.pick [0, 1, 2, 5, 3, 4, 6, 7, 8] rfl rfl
                        exact ih4 (j4 + 1) (upd fb48_4 j1 (0 : Int32)) (by omega) (by omega) (by rw [L4_X12_fewestOf, ← hst4]; exact (show L4_X12_fewestOfs rA rB rO i j1 j4 fb48_4 = (upd fb48_4 j1 (0 : Int32)) from by rw [L4_X12_fewestOfs, if_neg c29, if_neg c41]).symm) _ _ _ hW (lv_sub hl [0, 1, 2, 3] rfl)
              exact loop4 (j1 + 1) 0 (upd fb48_1 j1 (0 : Int32)) (by omega) (by omega) rfl _ _ _ hW (lv_sub hl [0, 1, 2, 3] rfl)
            · refine lv_iconst (v := 1) (pc := 51) hx hb dX12_fewestOf_51 (by decide) ?_
              refine lv_goto (tgt := 56) (pc := 52) hx hb dX12_fewestOf_52 rfl ?_
              refine r_zast (ws' := [(b46, .inl (g.2.1 1, 112, .inl tH)), (b47, .inl (g.2.1 1, 16, .inl gR)), (b48, .inl (g.2.1 3, 12, .inl (upd fb48_1 j1 (1 : Int32)))), (h0, .inr (12, vs)), (b6, .inl (g.2.1 1, 11, .inl rP)), (b7, .inl (g.2.1 1, 11, .inl rL)), (b12, .inl (g.2.1 1, 132, .inl rA)), (b13, .inl (g.2.1 1, 132, .inl rB)), (b17, .inl (g.2.1 3, 132, .inl rO))]) X hW 2 rfl (vp_in_nI (by omega) (by decide)) (f' := (upd fb48_1 j1 (1 : Int32))) (by rw [nI_clamp (by omega), show vp_nar .boolean (1 : Int32) = (1 : Int32) from by decide]) rfl dX12_fewestOf_56 (fun H locs hW => ?_)
              refine lv_iconst (v := 0) (pc := 57) hx hb dX12_fewestOf_57 (by decide) ?_
              refine lv_istore_n (lv' := [(3, .int 0), (2, .int (nI j1)), (0, .ref h0), (1, .int (nI i))]) (pc := 58) hx hb dX12_fewestOf_58 rfl hl (by decide) rfl (fun ls hl => ?_)
              have loop5 : ∀ (fu5 : Nat) (j5 : Nat) (fb48_5 : Nat → Int32), (j1 < fu5 + j5) → (j5 ≤ j1) → (fb48_5 = L5_X12_fewestOf rA rB rO i j1 (upd fb48_1 j1 (1 : Int32)) j5) → ∀ (H : Heap) (locs : List Loc) (ls : Array Slot), WD g A s H locs [(b46, .inl (g.2.1 1, 112, .inl tH)), (b47, .inl (g.2.1 1, 16, .inl gR)), (b48, .inl (g.2.1 3, 12, .inl fb48_5)), (h0, .inr (12, vs)), (b6, .inl (g.2.1 1, 11, .inl rP)), (b7, .inl (g.2.1 1, 11, .inl rL)), (b12, .inl (g.2.1 1, 132, .inl rA)), (b13, .inl (g.2.1 1, 132, .inl rB)), (b17, .inl (g.2.1 3, 132, .inl rO))] → lv_has ls 4 [(3, .int (nI j5)), (2, .int (nI j1)), (0, .ref h0), (1, .int (nI i))] → W p l e (RM 16 0 0) s m args below meth c H locs 0 0 Q (F0 m 59 ls []) := by
                intro fu5
                induction fu5 with
                | zero =>
                  intro j5 fb48_5 hm5 hj5 hst5
                  exact absurd hm5 (by omega)
                | succ fu5 ih5 =>
                  intro j5 fb48_5 hm5 hj5 hst5 H locs ls hW hl
                  refine lv_iload_n (pc := 59) hx hb dX12_fewestOf_59 rfl (lv_at hl 0 rfl) ?_
                  refine lv_iload_n (pc := 60) hx hb dX12_fewestOf_60 rfl (lv_at hl 1 rfl) ?_
                  refine lv_icmp_ge (tgt := 121) (pc := 61) hx hb dX12_fewestOf_61 rfl (fun c45 => ?_) (fun c45 => ?_)
                  · have h46 : j1 ≤ j5 := (nI_leI (a := j1) (b := j5) (by omega) (by omega)).mp c45
                    have hN5 : j5 = j1 := by omega
                    rw [hN5] at hst5
                    subst hst5
                    have hW : WD g A s _ _ [(b46, .inl (g.2.1 1, 112, .inl tH)), (b47, .inl (g.2.1 1, 16, .inl gR)), (b48, .inl (g.2.1 3, 12, .inl (L5_X12_fewestOf rA rB rO i j1 (upd fb48_1 j1 (1 : Int32)) j1))), (h0, .inr (12, vs)), (b6, .inl (g.2.1 1, 11, .inl rP)), (b7, .inl (g.2.1 1, 11, .inl rL)), (b12, .inl (g.2.1 1, 132, .inl rA)), (b13, .inl (g.2.1 1, 132, .inl rB)), (b17, .inl (g.2.1 3, 132, .inl rO))] := hW
                    refine lv_iinc (v := nI (j1 + 1)) (lv' := [(2, .int (nI (j1 + 1))), (3, .int (nI j5)), (0, .ref h0), (1, .int (nI i))]) (pc := 121) hx hb dX12_fewestOf_121 hl (k := 1) rfl (nI_add j1 1) (by decide) rfl (fun ls hl => ?_)
                    refine lv_goto (tgt := 22) (pc := 124) hx hb dX12_fewestOf_124 rfl ?_
                    exact ih1 (j1 + 1) (L5_X12_fewestOf rA rB rO i j1 (upd fb48_1 j1 (1 : Int32)) j1) (by omega) (by omega) (by rw [L1_X12_fewestOf, ← hst1]; exact (show L1_X12_fewestOfs rA rB rO i j1 fb48_1 = (L5_X12_fewestOf rA rB rO i j1 (upd fb48_1 j1 (1 : Int32)) j1) from by rw [L1_X12_fewestOfs, if_pos c23]).symm) _ _ _ hW (lv_sub hl [0, 2, 3] rfl)
                  · have h47 : ¬ (j1 ≤ j5) := fun q => c45 ((nI_leI (a := j1) (b := j5) (by omega) (by omega)).mpr q)
                    refine lv_aload_n (pc := 64) hx hb dX12_fewestOf_64 rfl (lv_at hl 2 rfl) ?_
                    refine r_get X hW 3 ciX12 48 rfl (by decide) m_1275 rfl h48_ dX12_fewestOf_65 ?_
                    refine lv_iload_n (pc := 68) hx hb dX12_fewestOf_68 rfl (lv_at hl 0 rfl) ?_
                    refine r_zald X hW 2 rfl (vp_in_nI (by omega) (by decide)) dX12_fewestOf_69 ?_
                    refine lv_topi (fun v48 ev48 => ?_)
                    obtain rfl : v48 = fb48_5 j5 := ev48.trans (by rw [nI_clamp (by omega)])
                    refine lv_if_eq (tgt := 115) (pc := 70) hx hb dX12_fewestOf_70 rfl (fun c49 => ?_) (fun c49 => ?_)
                    · refine lv_iinc (v := nI (j5 + 1)) (lv' := [(3, .int (nI (j5 + 1))), (2, .int (nI j1)), (0, .ref h0), (1, .int (nI i))]) (pc := 115) hx hb dX12_fewestOf_115 hl (k := 0) rfl (nI_add j5 1) (by decide) rfl (fun ls hl => ?_)
                      refine lv_goto (tgt := 59) (pc := 118) hx hb dX12_fewestOf_118 rfl ?_
                      exact ih5 (j5 + 1) fb48_5 (by omega) (by omega) (by rw [L5_X12_fewestOf, ← hst5]; exact (show L5_X12_fewestOfs rA rB rO i j1 j5 fb48_5 = fb48_5 from by rw [L5_X12_fewestOfs, if_pos c49]).symm) _ _ _ hW (lv_sub hl [0, 1, 2, 3] rfl)
                    · refine lv_aload_n (pc := 73) hx hb dX12_fewestOf_73 rfl (lv_at hl 2 rfl) ?_
                      refine lv_bipush (v := 12) (pc := 74) hx hb dX12_fewestOf_74 (by decide) ?_
                      refine lv_iload_n (pc := 76) hx hb dX12_fewestOf_76 rfl (lv_at hl 3 rfl) ?_
                      refine lv_imul (pc := 77) hx hb dX12_fewestOf_77 ?_
                      refine lv_topi (fun v52 ev52 => ?_)
                      obtain rfl : v52 = nI (12 * i) := ev52.trans (pk_mul 12 i)
                      refine lv_iload_n (pc := 78) hx hb dX12_fewestOf_78 rfl (lv_at hl 0 rfl) ?_
                      refine lv_iadd (pc := 79) hx hb dX12_fewestOf_79 ?_
                      refine lv_topi (fun v53 ev53 => ?_)
                      obtain rfl : v53 = nI (12 * i + j5) := ev53.trans (nI_add _ _)
                      refine lv_aload_n (pc := 80) hx hb dX12_fewestOf_80 rfl (lv_at hl 2 rfl) ?_
                      refine r_get X hW 3 ciX12 12 rfl (by decide) m_1243 rfl h12_ dX12_fewestOf_81 ?_
                      refine lv_bipush (v := 12) (pc := 84) hx hb dX12_fewestOf_84 (by decide) ?_
                      refine lv_iload_n (pc := 86) hx hb dX12_fewestOf_86 rfl (lv_at hl 3 rfl) ?_
                      refine lv_imul (pc := 87) hx hb dX12_fewestOf_87 ?_
                      refine lv_topi (fun v54 ev54 => ?_)
                      obtain rfl : v54 = nI (12 * i) := ev54.trans (pk_mul 12 i)
                      refine lv_iload_n (pc := 88) hx hb dX12_fewestOf_88 rfl (lv_at hl 1 rfl) ?_
                      refine lv_iadd (pc := 89) hx hb dX12_fewestOf_89 ?_
                      refine lv_topi (fun v55 ev55 => ?_)
                      obtain rfl : v55 = nI (12 * i + j1) := ev55.trans (nI_add _ _)
                      refine r_iald X hW 6 rfl (vp_in_nI (by omega) (by decide)) dX12_fewestOf_90 ?_
                      refine lv_topi (fun v56 ev56 => ?_)
                      obtain rfl : v56 = rA (12 * i + j1) := ev56.trans (by rw [nI_clamp (by omega)])
                      refine lv_aload_n (pc := 91) hx hb dX12_fewestOf_91 rfl (lv_at hl 2 rfl) ?_
                      refine r_get X hW 3 ciX12 13 rfl (by decide) m_1244 rfl h13_ dX12_fewestOf_92 ?_
                      refine lv_bipush (v := 12) (pc := 95) hx hb dX12_fewestOf_95 (by decide) ?_
                      refine lv_iload_n (pc := 97) hx hb dX12_fewestOf_97 rfl (lv_at hl 3 rfl) ?_
                      refine lv_imul (pc := 98) hx hb dX12_fewestOf_98 ?_
                      refine lv_topi (fun v57 ev57 => ?_)
                      obtain rfl : v57 = nI (12 * i) := ev57.trans (pk_mul 12 i)
                      refine lv_iload_n (pc := 99) hx hb dX12_fewestOf_99 rfl (lv_at hl 1 rfl) ?_
                      refine lv_iadd (pc := 100) hx hb dX12_fewestOf_100 ?_
                      refine lv_topi (fun v58 ev58 => ?_)
                      obtain rfl : v58 = nI (12 * i + j1) := ev58.trans (nI_add _ _)
                      refine r_iald X hW 7 rfl (vp_in_nI (by omega) (by decide)) dX12_fewestOf_101 ?_
                      refine lv_topi (fun v59 ev59 => ?_)
                      obtain rfl : v59 = rB (12 * i + j1) := ev59.trans (by rw [nI_clamp (by omega)])
                      refine c_Vi (pc := 102) (As := [.int (nI (12 * i + j5)), .int (rA (12 * i + j1)), .int (rB (12 * i + j1))]) (rest := []) (wr := [(b46, .inl (g.2.1 1, 112, .inl tH)), (b47, .inl (g.2.1 1, 16, .inl gR)), (b48, .inl (g.2.1 3, 12, .inl fb48_5)), (b6, .inl (g.2.1 1, 11, .inl rP)), (b7, .inl (g.2.1 1, 11, .inl rL))]) X hW 3 ciX12 rfl (K_X12_joins l g h0 vs b12 rA b13 rB b17 rO (12 * i + j5) (rA (12 * i + j1)) (rB (12 * i + j1)) hlen h12_ h13_ h17_ (by omega)) vX12_231 [3, 6, 7, 8] [0, 1, 2, 4, 5] rfl rfl rfl rfl rfl rfl hl.1 rfl (Nat.le_of_ble_eq_true rfl) ⟨Nat.le_of_ble_eq_true rfl, Nat.le_of_ble_eq_true rfl⟩ ⟨Nat.le_of_ble_eq_true rfl, Nat.le_of_ble_eq_true rfl⟩ dX12_fewestOf_102 (fun r60 u9 H locs hq hW => ?_)
                      obtain ⟨rfl, rfl⟩ := hq
                      have hW : WD g A s _ _ [(b46, .inl (g.2.1 1, 112, .inl tH)), (b47, .inl (g.2.1 1, 16, .inl gR)), (b48, .inl (g.2.1 3, 12, .inl fb48_5)), (b6, .inl (g.2.1 1, 11, .inl rP)), (b7, .inl (g.2.1 1, 11, .inl rL)), (h0, .inr (12, vs)), (b12, .inl (g.2.1 1, 132, .inl rA)), (b13, .inl (g.2.1 1, 132, .inl rB)), (b17, .inl (g.2.1 3, 132, .inl rO))] := hW
                      refine lv_if_eq (tgt := 115) (pc := 105) hx hb dX12_fewestOf_105 rfl (fun c61 => ?_) (fun c61 => ?_)
                      · refine lv_iinc (v := nI (j5 + 1)) (lv' := [(3, .int (nI (j5 + 1))), (2, .int (nI j1)), (0, .ref h0), (1, .int (nI i))]) (pc := 115) hx hb dX12_fewestOf_115 hl (k := 0) rfl (nI_add j5 1) (by decide) rfl (fun ls hl => ?_)
                        refine lv_goto (tgt := 59) (pc := 118) hx hb dX12_fewestOf_118 rfl ?_
                        have hW : WD g A s _ _ [(b46, .inl (g.2.1 1, 112, .inl tH)), (b47, .inl (g.2.1 1, 16, .inl gR)), (b48, .inl (g.2.1 3, 12, .inl fb48_5)), (h0, .inr (12, vs)), (b6, .inl (g.2.1 1, 11, .inl rP)), (b7, .inl (g.2.1 1, 11, .inl rL)), (b12, .inl (g.2.1 1, 132, .inl rA)), (b13, .inl (g.2.1 1, 132, .inl rB)), (b17, .inl (g.2.1 3, 132, .inl rO))] := hW.pick [0, 1, 2, 5, 3, 4, 6, 7, 8] rfl rfl
                        exact ih5 (j5 + 1) fb48_5 (by omega) (by omega) (by rw [L5_X12_fewestOf, ← hst5]; exact (show L5_X12_fewestOfs rA rB rO i j1 j5 fb48_5 = fb48_5 from by rw [L5_X12_fewestOfs, if_neg c49, if_pos c61]).symm) _ _ _ hW (lv_sub hl [0, 1, 2, 3] rfl)
                      · refine lv_aload_n (pc := 108) hx hb dX12_fewestOf_108 rfl (lv_at hl 2 rfl) ?_
                        refine r_get X hW 5 ciX12 48 rfl (by decide) m_1275 rfl h48_ dX12_fewestOf_109 ?_
                        refine lv_iload_n (pc := 112) hx hb dX12_fewestOf_112 rfl (lv_at hl 1 rfl) ?_
                        refine lv_iconst (v := 0) (pc := 113) hx hb dX12_fewestOf_113 (by decide) ?_
                        refine r_zast (ws' := [(b46, .inl (g.2.1 1, 112, .inl tH)), (b47, .inl (g.2.1 1, 16, .inl gR)), (b48, .inl (g.2.1 3, 12, .inl (upd fb48_5 j1 (0 : Int32)))), (b6, .inl (g.2.1 1, 11, .inl rP)), (b7, .inl (g.2.1 1, 11, .inl rL)), (h0, .inr (12, vs)), (b12, .inl (g.2.1 1, 132, .inl rA)), (b13, .inl (g.2.1 1, 132, .inl rB)), (b17, .inl (g.2.1 3, 132, .inl rO))]) X hW 2 rfl (vp_in_nI (by omega) (by decide)) (f' := (upd fb48_5 j1 (0 : Int32))) (by rw [nI_clamp (by omega), show vp_nar .boolean (0 : Int32) = (0 : Int32) from by decide]) rfl dX12_fewestOf_114 (fun H locs hW => ?_)
                        refine lv_iinc (v := nI (j5 + 1)) (lv' := [(3, .int (nI (j5 + 1))), (2, .int (nI j1)), (0, .ref h0), (1, .int (nI i))]) (pc := 115) hx hb dX12_fewestOf_115 hl (k := 0) rfl (nI_add j5 1) (by decide) rfl (fun ls hl => ?_)
                        refine lv_goto (tgt := 59) (pc := 118) hx hb dX12_fewestOf_118 rfl ?_
                        have hW : WD g A s _ _ [(b46, .inl (g.2.1 1, 112, .inl tH)), (b47, .inl (g.2.1 1, 16, .inl gR)), (b48, .inl (g.2.1 3, 12, .inl (upd fb48_5 j1 (0 : Int32)))), (h0, .inr (12, vs)), (b6, .inl (g.2.1 1, 11, .inl rP)), (b7, .inl (g.2.1 1, 11, .inl rL)), (b12, .inl (g.2.1 1, 132, .inl rA)), (b13, .inl (g.2.1 1, 132, .inl rB)), (b17, .inl (g.2.1 3, 132, .inl rO))] := hW.pick [0, 1, 2, 5, 3, 4, 6, 7, 8] rfl rfl
                        exact ih5 (j5 + 1) (upd fb48_5 j1 (0 : Int32)) (by omega) (by omega) (by rw [L5_X12_fewestOf, ← hst5]; exact (show L5_X12_fewestOfs rA rB rO i j1 j5 fb48_5 = (upd fb48_5 j1 (0 : Int32)) from by rw [L5_X12_fewestOfs, if_neg c49, if_neg c61]).symm) _ _ _ hW (lv_sub hl [0, 1, 2, 3] rfl)
              exact loop5 (j1 + 1) 0 (upd fb48_1 j1 (1 : Int32)) (by omega) (by omega) rfl _ _ _ hW (lv_sub hl [0, 1, 2, 3] rfl)
      exact loop1 (lc + 1) 0 lW (by omega) (by omega) rfl _ _ _ hW (lv_sub hl [0, 1, 2] rfl)
    · refine lv_iconst (v := (-1)) (pc := 18) hx hb dX12_fewestOf_18 (by decide) ?_
      have hF : F_X12_fewestOf rP rA rB rO tH gR lW i lc pe = ((-1 : Int32), tH, gR, lW) := show F_X12_fewestOf rP rA rB rO tH gR lW i lc pe = ((-1 : Int32), tH, gR, lW) from by rw [F_X12_fewestOf, if_neg c2, if_pos c6]
      exact e_i (u := [(h0, .inr (12, vs)), (b6, .inl (g.2.1 1, 11, .inl rP)), (b7, .inl (g.2.1 1, 11, .inl rL)), (b12, .inl (g.2.1 1, 132, .inl rA)), (b13, .inl (g.2.1 1, 132, .inl rB)), (b17, .inl (g.2.1 3, 132, .inl rO)), (b46, .inl (g.2.1 1, 112, .inl tH)), (b47, .inl (g.2.1 1, 16, .inl gR)), (b48, .inl (g.2.1 3, 12, .inl lW))]) X hQ hr (hW) [3, 4, 5, 6, 7, 8, 0, 1, 2] rfl rfl (⟨(congrArg Prod.fst hF).symm, by rw [hF]⟩) ⟨Nat.le_of_ble_eq_true rfl, Nat.le_of_ble_eq_true rfl⟩ dX12_fewestOf_19

def F_X12_gossip (nv : Nat) (rP : Nat → Int32) (rL : Nat → Int32) (rA : Nat → Int32) (rB : Nat → Int32) (rO : Nat → Int32) (tH : Nat → Int32) (gR : Nat → Int32) (lW : Nat → Int32) (x : Int32) (y : Int32) : Int32 × (Nat → Int32) × (Nat → Int32) × (Nat → Int32) := if F_X12_isValley nv x = 0 then (((-1 : Int32), tH, gR, lW)) else (if (F_X12_isIn y (0 : Int32) (((F_X12_fewestOf rP rA rB rO tH gR lW (tN x) (tN (rL (tN x))) (tN (rP (tN x)))).1) - (1 : Int32))) = 0 then (((-1 : Int32), ((F_X12_fewestOf rP rA rB rO tH gR lW (tN x) (tN (rL (tN x))) (tN (rP (tN x)))).2.1), ((F_X12_fewestOf rP rA rB rO tH gR lW (tN x) (tN (rL (tN x))) (tN (rP (tN x)))).2.2.1), ((F_X12_fewestOf rP rA rB rO tH gR lW (tN x) (tN (rL (tN x))) (tN (rP (tN x)))).2.2.2))) else ((((F_X12_fewestOf rP rA rB rO tH gR lW (tN x) (tN (rL (tN x))) (tN (rP (tN x)))).2.2.1) (tN y), ((F_X12_fewestOf rP rA rB rO tH gR lW (tN x) (tN (rL (tN x))) (tN (rP (tN x)))).2.1), ((F_X12_fewestOf rP rA rB rO tH gR lW (tN x) (tN (rL (tN x))) (tN (rP (tN x)))).2.2.1), ((F_X12_fewestOf rP rA rB rO tH gR lW (tN x) (tN (rL (tN x))) (tN (rP (tN x)))).2.2.2))))
set_option maxHeartbeats 4000000 in
set_option maxRecDepth 100000 in
theorem K_X12_gossip (l : Launch) (g : GG) (h0 : Nat) (vs : List Value) (nv : Nat) (b6 : Nat) (rP : Nat → Int32) (b7 : Nat) (rL : Nat → Int32) (b12 : Nat) (rA : Nat → Int32) (b13 : Nat) (rB : Nat → Int32) (b17 : Nat) (rO : Nat → Int32) (b46 : Nat) (tH : Nat → Int32) (b47 : Nat) (gR : Nat → Int32) (b48 : Nat) (lW : Nat → Int32) (x : Int32) (y : Int32) (hlen : vs.length = 64) (h18_ : vs[18]? = some (.int (nI nv))) (h6_ : vs[6]? = some (.ref b6)) (h7_ : vs[7]? = some (.ref b7)) (h12_ : vs[12]? = some (.ref b12)) (h13_ : vs[13]? = some (.ref b13)) (h17_ : vs[17]? = some (.ref b17)) (h46_ : vs[46]? = some (.ref b46)) (h47_ : vs[47]? = some (.ref b47)) (h48_ : vs[48]? = some (.ref b48)) (hn : nv ≤ 10) (hLc : ∀ j : Nat, j < nv → rL j = nI (tN (rL j)) ∧ tN (rL j) ≤ 12) (hPc : ∀ j : Nat, j < nv → rP j = nI (tN (rP j)) ∧ tN (rP j) ≤ 7) (hA : ∀ j : Nat, j < nv → ∀ l : Nat, l < tN (rL j) → rA (12 * j + l) = nI (tN (rA (12 * j + l))) ∧ tN (rA (12 * j + l)) < tN (rP j)) (hB : ∀ j : Nat, j < nv → ∀ l : Nat, l < tN (rL j) → rB (12 * j + l) = nI (tN (rB (12 * j + l))) ∧ tN (rB (12 * j + l)) < tN (rP j)) (hkp : tN x < nv → ∀ (W : Nat → Int32) (n : Nat) (T G : Nat → Int32) (o : Nat), n ≤ 7 → o < 7 → (GP rP rA rB W (tN x) (tN (rL (tN x))) (tN (rP (tN x))) n 0 T G).2.1 o = T o) (hfin : tN x < nv → ∀ (n : Nat) (T G : Nat → Int32), n ≤ 7 → (∀ o : Nat, o < (tN (rP (tN x))) → T o = (1 : Int32) <<< (nI o &&& 31)) → (tN (rP (tN x))) ≤ 5 → ¬ F_X12_holdsAll rP rA rB rO (tN (rL (tN x))) (tN x) = 0 → (GP rP rA rB (L1_X12_fewestOf rA rB rO (tN x) lW (tN (rL (tN x)))) (tN x) (tN (rL (tN x))) (tN (rP (tN x))) n 0 T G).1 = 0 → n < 7) (hF7 : tN x < nv → (F_X12_fewestOf rP rA rB rO tH gR lW (tN x) (tN (rL (tN x))) (tN (rP (tN x)))).1 - 1 < 8) : MetI l g yX12_gossip cX12_gossip 4 (some .int) 17 0 0 [.ref h0, .int x, .int y] [(h0, .inr (12, vs)), (b6, .inl (g.2.1 1, 11, .inl rP)), (b7, .inl (g.2.1 1, 11, .inl rL)), (b12, .inl (g.2.1 1, 132, .inl rA)), (b13, .inl (g.2.1 1, 132, .inl rB)), (b17, .inl (g.2.1 3, 132, .inl rO)), (b46, .inl (g.2.1 1, 112, .inl tH)), (b47, .inl (g.2.1 1, 16, .inl gR)), (b48, .inl (g.2.1 3, 12, .inl lW))] (fun r u => r = (F_X12_gossip nv rP rL rA rB rO tH gR lW x y).1 ∧ u = [(h0, .inr (12, (vs.set 0 (.int 0)))), (b6, .inl (g.2.1 1, 11, .inl rP)), (b7, .inl (g.2.1 1, 11, .inl rL)), (b12, .inl (g.2.1 1, 132, .inl rA)), (b13, .inl (g.2.1 1, 132, .inl rB)), (b17, .inl (g.2.1 3, 132, .inl rO)), (b46, .inl (g.2.1 1, 112, .inl ((F_X12_gossip nv rP rL rA rB rO tH gR lW x y).2.1))), (b47, .inl (g.2.1 1, 16, .inl ((F_X12_gossip nv rP rL rA rB rO tH gR lW x y).2.2.1))), (b48, .inl (g.2.1 3, 12, .inl ((F_X12_gossip nv rP rL rA rB rO tH gR lW x y).2.2.2)))]) := by
  refine MetI.of (own := RX12) rfl (by decide) (Nat.le_of_ble_eq_true rfl) ?_
  intro p e s m below meth c A ls args Q hQ X hr hin hW hl
  have hx := X.1
  have hb := X.2.1
  have hl : lv_has ls 4 [(0, .ref h0), (1, .int x), (2, .int y)] := hl
  refine lv_aload_n (pc := 0) hx hb dX12_gossip_0 rfl (lv_at hl 0 rfl) ?_
  refine lv_iconst (v := 0) (pc := 1) hx hb dX12_gossip_1 (by decide) ?_
  refine r_put (ws' := [(h0, .inr (12, (vs.set 0 (.int 0)))), (b6, .inl (g.2.1 1, 11, .inl rP)), (b7, .inl (g.2.1 1, 11, .inl rL)), (b12, .inl (g.2.1 1, 132, .inl rA)), (b13, .inl (g.2.1 1, 132, .inl rB)), (b17, .inl (g.2.1 3, 132, .inl rO)), (b46, .inl (g.2.1 1, 112, .inl tH)), (b47, .inl (g.2.1 1, 16, .inl gR)), (b48, .inl (g.2.1 3, 12, .inl lW))]) X hW 0 ciX12 0 rfl (by decide) m_1231 rfl rfl rfl rfl (sv_lt (by decide) hlen) rfl dX12_gossip_2 (fun H locs hW => ?_)
  refine lv_aload_n (pc := 5) hx hb dX12_gossip_5 rfl (lv_at hl 0 rfl) ?_
  refine lv_iload_n (pc := 6) hx hb dX12_gossip_6 rfl (lv_at hl 1 rfl) ?_
  refine c_Vi (pc := 7) (As := [.int x]) (rest := []) (wr := [(b6, .inl (g.2.1 1, 11, .inl rP)), (b7, .inl (g.2.1 1, 11, .inl rL)), (b12, .inl (g.2.1 1, 132, .inl rA)), (b13, .inl (g.2.1 1, 132, .inl rB)), (b17, .inl (g.2.1 3, 132, .inl rO)), (b46, .inl (g.2.1 1, 112, .inl tH)), (b47, .inl (g.2.1 1, 16, .inl gR)), (b48, .inl (g.2.1 3, 12, .inl lW))]) X hW 0 ciX12 rfl (K_X12_isValley l g h0 (vs.set 0 (.int 0)) nv x (sv_len hlen) (sv_ne (k := 0) (by decide) h18_)) vX12_221 [0] [1, 2, 3, 4, 5, 6, 7, 8] rfl rfl rfl rfl rfl rfl hl.1 rfl (Nat.le_of_ble_eq_true rfl) ⟨Nat.le_of_ble_eq_true rfl, Nat.le_of_ble_eq_true rfl⟩ ⟨Nat.le_of_ble_eq_true rfl, Nat.le_of_ble_eq_true rfl⟩ dX12_gossip_7 (fun r1 u9 H locs hq hW => ?_)
  obtain ⟨rfl, rfl⟩ := hq
  have hW : WD g A s _ _ [(b6, .inl (g.2.1 1, 11, .inl rP)), (b7, .inl (g.2.1 1, 11, .inl rL)), (b12, .inl (g.2.1 1, 132, .inl rA)), (b13, .inl (g.2.1 1, 132, .inl rB)), (b17, .inl (g.2.1 3, 132, .inl rO)), (b46, .inl (g.2.1 1, 112, .inl tH)), (b47, .inl (g.2.1 1, 16, .inl gR)), (b48, .inl (g.2.1 3, 12, .inl lW)), (h0, .inr (12, (vs.set 0 (.int 0))))] := hW
  refine lv_if_ne (tgt := 15) (pc := 10) hx hb dX12_gossip_10 rfl (fun c2 => ?_) (fun c2 => ?_)
  · have hvx := rv_at (n := nv) (by omega) c2
    have hvx2 := hvx.2
    rw [hvx.1] at hl
    have hPe := hPc (tN x) hvx2
    have hL12 := hLc (tN x) hvx2
    refine lv_aload_n (pc := 15) hx hb dX12_gossip_15 rfl (lv_at hl 0 rfl) ?_
    refine lv_iload_n (pc := 16) hx hb dX12_gossip_16 rfl (lv_at hl 1 rfl) ?_
    refine c_Vi (pc := 17) (As := [.int (nI (tN x))]) (rest := []) (wr := []) X hW 8 ciX12 rfl (K_X12_fewestOf l g h0 (vs.set 0 (.int 0)) b6 rP b7 rL b12 rA b13 rB b17 rO b46 tH b47 gR b48 lW (tN x) (tN (rL (tN x))) (tN (rP (tN x))) (sv_len hlen) (sv_ne (k := 0) (by decide) h6_) (sv_ne (k := 0) (by decide) h7_) (sv_ne (k := 0) (by decide) h12_) (sv_ne (k := 0) (by decide) h13_) (sv_ne (k := 0) (by decide) h17_) (sv_ne (k := 0) (by decide) h46_) (sv_ne (k := 0) (by decide) h47_) (sv_ne (k := 0) (by decide) h48_) (by omega) hL12.2 hL12.1 hPe.2 hPe.1 (hA (tN x) hvx2) (hB (tN x) hvx2) (hkp hvx2) (hfin hvx2)) vX12_352 [8, 0, 1, 2, 3, 4, 5, 6, 7] [] rfl rfl rfl rfl rfl rfl hl.1 rfl (Nat.le_of_ble_eq_true rfl) ⟨Nat.le_of_ble_eq_true rfl, Nat.le_of_ble_eq_true rfl⟩ ⟨Nat.le_of_ble_eq_true rfl, Nat.le_of_ble_eq_true rfl⟩ dX12_gossip_17 (fun r4 u9 H locs hq hW => ?_)
    obtain ⟨rfl, rfl⟩ := hq
    have hW : WD g A s _ _ [(h0, .inr (12, (vs.set 0 (.int 0)))), (b6, .inl (g.2.1 1, 11, .inl rP)), (b7, .inl (g.2.1 1, 11, .inl rL)), (b12, .inl (g.2.1 1, 132, .inl rA)), (b13, .inl (g.2.1 1, 132, .inl rB)), (b17, .inl (g.2.1 3, 132, .inl rO)), (b46, .inl (g.2.1 1, 112, .inl ((F_X12_fewestOf rP rA rB rO tH gR lW (tN x) (tN (rL (tN x))) (tN (rP (tN x)))).2.1))), (b47, .inl (g.2.1 1, 16, .inl ((F_X12_fewestOf rP rA rB rO tH gR lW (tN x) (tN (rL (tN x))) (tN (rP (tN x)))).2.2.1))), (b48, .inl (g.2.1 3, 12, .inl ((F_X12_fewestOf rP rA rB rO tH gR lW (tN x) (tN (rL (tN x))) (tN (rP (tN x)))).2.2.2)))] := hW
    refine lv_istore_n (lv' := [(3, .int ((F_X12_fewestOf rP rA rB rO tH gR lW (tN x) (tN (rL (tN x))) (tN (rP (tN x)))).1)), (0, .ref h0), (1, .int (nI (tN x))), (2, .int y)]) (pc := 20) hx hb dX12_gossip_20 rfl hl (by decide) rfl (fun ls hl => ?_)
    refine lv_iload_n (pc := 21) hx hb dX12_gossip_21 rfl (lv_at hl 3 rfl) ?_
    refine lv_iconst (v := 0) (pc := 22) hx hb dX12_gossip_22 (by decide) ?_
    refine lv_iload_n (pc := 23) hx hb dX12_gossip_23 rfl (lv_at hl 0 rfl) ?_
    refine lv_iconst (v := 1) (pc := 24) hx hb dX12_gossip_24 (by decide) ?_
    refine lv_isub (pc := 25) hx hb dX12_gossip_25 ?_
    refine c_Si (pc := 26) (As := [.int y, .int 0, .int (((F_X12_fewestOf rP rA rB rO tH gR lW (tN x) (tN (rL (tN x))) (tN (rP (tN x)))).1) - (1 : Int32))]) (rest := []) (wr := [(h0, .inr (12, (vs.set 0 (.int 0)))), (b6, .inl (g.2.1 1, 11, .inl rP)), (b7, .inl (g.2.1 1, 11, .inl rL)), (b12, .inl (g.2.1 1, 132, .inl rA)), (b13, .inl (g.2.1 1, 132, .inl rB)), (b17, .inl (g.2.1 3, 132, .inl rO)), (b46, .inl (g.2.1 1, 112, .inl ((F_X12_fewestOf rP rA rB rO tH gR lW (tN x) (tN (rL (tN x))) (tN (rP (tN x)))).2.1))), (b47, .inl (g.2.1 1, 16, .inl ((F_X12_fewestOf rP rA rB rO tH gR lW (tN x) (tN (rL (tN x))) (tN (rP (tN x)))).2.2.1))), (b48, .inl (g.2.1 3, 12, .inl ((F_X12_fewestOf rP rA rB rO tH gR lW (tN x) (tN (rL (tN x))) (tN (rP (tN x)))).2.2.2)))]) X hW (K_X12_isIn l g y (0 : Int32) (((F_X12_fewestOf rP rA rB rO tH gR lW (tN x) (tN (rL (tN x))) (tN (rP (tN x)))).1) - (1 : Int32))) vX12_198 [] [0, 1, 2, 3, 4, 5, 6, 7, 8] rfl rfl rfl rfl rfl rfl hl.1 rfl (Nat.le_of_ble_eq_true rfl) ⟨Nat.le_of_ble_eq_true rfl, Nat.le_of_ble_eq_true rfl⟩ ⟨Nat.le_of_ble_eq_true rfl, Nat.le_of_ble_eq_true rfl⟩ dX12_gossip_26 (fun r5 u9 H locs hq hW => ?_)
    obtain ⟨rfl, rfl⟩ := hq
    have hW : WD g A s _ _ [(h0, .inr (12, (vs.set 0 (.int 0)))), (b6, .inl (g.2.1 1, 11, .inl rP)), (b7, .inl (g.2.1 1, 11, .inl rL)), (b12, .inl (g.2.1 1, 132, .inl rA)), (b13, .inl (g.2.1 1, 132, .inl rB)), (b17, .inl (g.2.1 3, 132, .inl rO)), (b46, .inl (g.2.1 1, 112, .inl ((F_X12_fewestOf rP rA rB rO tH gR lW (tN x) (tN (rL (tN x))) (tN (rP (tN x)))).2.1))), (b47, .inl (g.2.1 1, 16, .inl ((F_X12_fewestOf rP rA rB rO tH gR lW (tN x) (tN (rL (tN x))) (tN (rP (tN x)))).2.2.1))), (b48, .inl (g.2.1 3, 12, .inl ((F_X12_fewestOf rP rA rB rO tH gR lW (tN x) (tN (rL (tN x))) (tN (rP (tN x)))).2.2.2)))] := hW
    refine lv_if_eq (tgt := 41) (pc := 29) hx hb dX12_gossip_29 rfl (fun c6 => ?_) (fun c6 => ?_)
    · refine lv_iconst (v := (-1)) (pc := 41) hx hb dX12_gossip_41 (by decide) ?_
      have hF : F_X12_gossip nv rP rL rA rB rO tH gR lW x y = ((-1 : Int32), ((F_X12_fewestOf rP rA rB rO tH gR lW (tN x) (tN (rL (tN x))) (tN (rP (tN x)))).2.1), ((F_X12_fewestOf rP rA rB rO tH gR lW (tN x) (tN (rL (tN x))) (tN (rP (tN x)))).2.2.1), ((F_X12_fewestOf rP rA rB rO tH gR lW (tN x) (tN (rL (tN x))) (tN (rP (tN x)))).2.2.2)) := show F_X12_gossip nv rP rL rA rB rO tH gR lW x y = ((-1 : Int32), ((F_X12_fewestOf rP rA rB rO tH gR lW (tN x) (tN (rL (tN x))) (tN (rP (tN x)))).2.1), ((F_X12_fewestOf rP rA rB rO tH gR lW (tN x) (tN (rL (tN x))) (tN (rP (tN x)))).2.2.1), ((F_X12_fewestOf rP rA rB rO tH gR lW (tN x) (tN (rL (tN x))) (tN (rP (tN x)))).2.2.2)) from by rw [F_X12_gossip, if_neg c2, if_pos c6]
      exact e_i (u := [(h0, .inr (12, (vs.set 0 (.int 0)))), (b6, .inl (g.2.1 1, 11, .inl rP)), (b7, .inl (g.2.1 1, 11, .inl rL)), (b12, .inl (g.2.1 1, 132, .inl rA)), (b13, .inl (g.2.1 1, 132, .inl rB)), (b17, .inl (g.2.1 3, 132, .inl rO)), (b46, .inl (g.2.1 1, 112, .inl ((F_X12_fewestOf rP rA rB rO tH gR lW (tN x) (tN (rL (tN x))) (tN (rP (tN x)))).2.1))), (b47, .inl (g.2.1 1, 16, .inl ((F_X12_fewestOf rP rA rB rO tH gR lW (tN x) (tN (rL (tN x))) (tN (rP (tN x)))).2.2.1))), (b48, .inl (g.2.1 3, 12, .inl ((F_X12_fewestOf rP rA rB rO tH gR lW (tN x) (tN (rL (tN x))) (tN (rP (tN x)))).2.2.2)))]) X hQ hr (hW) [0, 1, 2, 3, 4, 5, 6, 7, 8] rfl rfl (⟨(congrArg Prod.fst hF).symm, by rw [hF]⟩) ⟨Nat.le_of_ble_eq_true rfl, Nat.le_of_ble_eq_true rfl⟩ dX12_gossip_42
    · obtain ⟨hi0, hi1⟩ := in_at c6
      have hyb := tN_in (n := 8) (by omega) hi0 (Int32.lt_of_le_of_lt hi1 (hF7 hvx2))
      have hyb2 := hyb.2
      rw [hyb.1] at hl
      refine lv_aload_n (pc := 32) hx hb dX12_gossip_32 rfl (lv_at hl 1 rfl) ?_
      refine r_get X hW 0 ciX12 47 rfl (by decide) m_1274 rfl (sv_ne (k := 0) (by decide) h47_) dX12_gossip_33 ?_
      refine lv_iload_n (pc := 36) hx hb dX12_gossip_36 rfl (lv_at hl 3 rfl) ?_
      refine r_iald X hW 7 rfl (vp_in_nI (by omega) (by decide)) dX12_gossip_37 ?_
      refine lv_topi (fun v9 ev9 => ?_)
      obtain rfl : v9 = ((F_X12_fewestOf rP rA rB rO tH gR lW (tN x) (tN (rL (tN x))) (tN (rP (tN x)))).2.2.1) (tN y) := ev9.trans (by rw [nI_clamp (by omega)])
      refine lv_goto (tgt := 42) (pc := 38) hx hb dX12_gossip_38 rfl ?_
      have hF : F_X12_gossip nv rP rL rA rB rO tH gR lW x y = (((F_X12_fewestOf rP rA rB rO tH gR lW (tN x) (tN (rL (tN x))) (tN (rP (tN x)))).2.2.1) (tN y), ((F_X12_fewestOf rP rA rB rO tH gR lW (tN x) (tN (rL (tN x))) (tN (rP (tN x)))).2.1), ((F_X12_fewestOf rP rA rB rO tH gR lW (tN x) (tN (rL (tN x))) (tN (rP (tN x)))).2.2.1), ((F_X12_fewestOf rP rA rB rO tH gR lW (tN x) (tN (rL (tN x))) (tN (rP (tN x)))).2.2.2)) := show F_X12_gossip nv rP rL rA rB rO tH gR lW x y = (((F_X12_fewestOf rP rA rB rO tH gR lW (tN x) (tN (rL (tN x))) (tN (rP (tN x)))).2.2.1) (tN y), ((F_X12_fewestOf rP rA rB rO tH gR lW (tN x) (tN (rL (tN x))) (tN (rP (tN x)))).2.1), ((F_X12_fewestOf rP rA rB rO tH gR lW (tN x) (tN (rL (tN x))) (tN (rP (tN x)))).2.2.1), ((F_X12_fewestOf rP rA rB rO tH gR lW (tN x) (tN (rL (tN x))) (tN (rP (tN x)))).2.2.2)) from by rw [F_X12_gossip, if_neg c2, if_neg c6]
      exact e_i (u := [(h0, .inr (12, (vs.set 0 (.int 0)))), (b6, .inl (g.2.1 1, 11, .inl rP)), (b7, .inl (g.2.1 1, 11, .inl rL)), (b12, .inl (g.2.1 1, 132, .inl rA)), (b13, .inl (g.2.1 1, 132, .inl rB)), (b17, .inl (g.2.1 3, 132, .inl rO)), (b46, .inl (g.2.1 1, 112, .inl ((F_X12_fewestOf rP rA rB rO tH gR lW (tN x) (tN (rL (tN x))) (tN (rP (tN x)))).2.1))), (b47, .inl (g.2.1 1, 16, .inl ((F_X12_fewestOf rP rA rB rO tH gR lW (tN x) (tN (rL (tN x))) (tN (rP (tN x)))).2.2.1))), (b48, .inl (g.2.1 3, 12, .inl ((F_X12_fewestOf rP rA rB rO tH gR lW (tN x) (tN (rL (tN x))) (tN (rP (tN x)))).2.2.2)))]) X hQ hr (hW) [0, 1, 2, 3, 4, 5, 6, 7, 8] rfl rfl (⟨(congrArg Prod.fst hF).symm, by rw [hF]⟩) ⟨Nat.le_of_ble_eq_true rfl, Nat.le_of_ble_eq_true rfl⟩ dX12_gossip_42
  · refine lv_iconst (v := (-1)) (pc := 13) hx hb dX12_gossip_13 (by decide) ?_
    have hF : F_X12_gossip nv rP rL rA rB rO tH gR lW x y = ((-1 : Int32), tH, gR, lW) := show F_X12_gossip nv rP rL rA rB rO tH gR lW x y = ((-1 : Int32), tH, gR, lW) from by rw [F_X12_gossip, if_pos c2]
    exact e_i (u := [(h0, .inr (12, (vs.set 0 (.int 0)))), (b6, .inl (g.2.1 1, 11, .inl rP)), (b7, .inl (g.2.1 1, 11, .inl rL)), (b12, .inl (g.2.1 1, 132, .inl rA)), (b13, .inl (g.2.1 1, 132, .inl rB)), (b17, .inl (g.2.1 3, 132, .inl rO)), (b46, .inl (g.2.1 1, 112, .inl tH)), (b47, .inl (g.2.1 1, 16, .inl gR)), (b48, .inl (g.2.1 3, 12, .inl lW))]) X hQ hr (hW) [8, 0, 1, 2, 3, 4, 5, 6, 7] rfl rfl (⟨(congrArg Prod.fst hF).symm, by rw [hF]⟩) ⟨Nat.le_of_ble_eq_true rfl, Nat.le_of_ble_eq_true rfl⟩ dX12_gossip_14

theorem dX10_nextOnCard_0 : decode cX10_nextOnCard 0 = .ok (.iload_n 2, 1) := by decide +kernel
theorem dX10_nextOnCard_1 : decode cX10_nextOnCard 1 = .ok (.aload_n 0, 1) := by decide +kernel
theorem dX10_nextOnCard_2 : decode cX10_nextOnCard 2 = .ok (.getfield 39, 3) := by decide +kernel
theorem dX10_nextOnCard_5 : decode cX10_nextOnCard 5 = .ok (.iload_n 1, 1) := by decide +kernel
theorem dX10_nextOnCard_6 : decode cX10_nextOnCard 6 = .ok (.iaload, 1) := by decide +kernel
theorem dX10_nextOnCard_7 : decode cX10_nextOnCard 7 = .ok (.if_icmp .lt 7, 3) := by decide +kernel
theorem dX10_nextOnCard_14 : decode cX10_nextOnCard 14 = .ok (.aload_n 0, 1) := by decide +kernel
theorem dX10_nextOnCard_15 : decode cX10_nextOnCard 15 = .ok (.getfield 36, 3) := by decide +kernel
theorem dX10_nextOnCard_18 : decode cX10_nextOnCard 18 = .ok (.iload_n 1, 1) := by decide +kernel
theorem dX10_nextOnCard_19 : decode cX10_nextOnCard 19 = .ok (.bipush 6, 2) := by decide +kernel
theorem dX10_nextOnCard_21 : decode cX10_nextOnCard 21 = .ok (.imul, 1) := by decide +kernel
theorem dX10_nextOnCard_22 : decode cX10_nextOnCard 22 = .ok (.iload_n 2, 1) := by decide +kernel
theorem dX10_nextOnCard_23 : decode cX10_nextOnCard 23 = .ok (.iadd, 1) := by decide +kernel
theorem dX10_nextOnCard_24 : decode cX10_nextOnCard 24 = .ok (.iaload, 1) := by decide +kernel
theorem dX10_nextOnCard_25 : decode cX10_nextOnCard 25 = .ok (.ireturn, 1) := by decide +kernel
theorem dX10_nextOnCard_10 : decode cX10_nextOnCard 10 = .ok (.iconst (-1), 1) := by decide +kernel
theorem dX10_nextOnCard_11 : decode cX10_nextOnCard 11 = .ok (.goto 14, 3) := by decide +kernel
theorem dX0_hoursTillAllKnow_0 : decode cX0_hoursTillAllKnow 0 = .ok (.aload_n 0, 1) := by decide +kernel
theorem dX0_hoursTillAllKnow_1 : decode cX0_hoursTillAllKnow 1 = .ok (.aload_n 1, 1) := by decide +kernel
theorem dX0_hoursTillAllKnow_2 : decode cX0_hoursTillAllKnow 2 = .ok (.putfield 24, 3) := by decide +kernel
theorem dX0_hoursTillAllKnow_5 : decode cX0_hoursTillAllKnow 5 = .ok (.aload_n 0, 1) := by decide +kernel
theorem dX0_hoursTillAllKnow_6 : decode cX0_hoursTillAllKnow 6 = .ok (.iconst 1, 1) := by decide +kernel
theorem dX0_hoursTillAllKnow_7 : decode cX0_hoursTillAllKnow 7 = .ok (.iload_n 2, 1) := by decide +kernel
theorem dX0_hoursTillAllKnow_8 : decode cX0_hoursTillAllKnow 8 = .ok (.ishl, 1) := by decide +kernel
theorem dX0_hoursTillAllKnow_9 : decode cX0_hoursTillAllKnow 9 = .ok (.putfield 28, 3) := by decide +kernel
theorem dX0_hoursTillAllKnow_12 : decode cX0_hoursTillAllKnow 12 = .ok (.aload_n 0, 1) := by decide +kernel
theorem dX0_hoursTillAllKnow_13 : decode cX0_hoursTillAllKnow 13 = .ok (.iconst 0, 1) := by decide +kernel
theorem dX0_hoursTillAllKnow_14 : decode cX0_hoursTillAllKnow 14 = .ok (.putfield 32, 3) := by decide +kernel
theorem dX0_hoursTillAllKnow_17 : decode cX0_hoursTillAllKnow 17 = .ok (.aload_n 0, 1) := by decide +kernel
theorem dX0_hoursTillAllKnow_18 : decode cX0_hoursTillAllKnow 18 = .ok (.getfield 9, 3) := by decide +kernel
theorem dX0_hoursTillAllKnow_21 : decode cX0_hoursTillAllKnow 21 = .ok (.iconst 0, 1) := by decide +kernel
theorem dX0_hoursTillAllKnow_22 : decode cX0_hoursTillAllKnow 22 = .ok (.invokestatic 35, 3) := by decide +kernel
theorem dX0_hoursTillAllKnow_25 : decode cX0_hoursTillAllKnow 25 = .ok (.iconst 0, 1) := by decide +kernel
theorem dX0_hoursTillAllKnow_26 : decode cX0_hoursTillAllKnow 26 = .ok (.istore_n 3, 1) := by decide +kernel
theorem dX0_hoursTillAllKnow_27 : decode cX0_hoursTillAllKnow 27 = .ok (.iload_n 3, 1) := by decide +kernel
theorem dX0_hoursTillAllKnow_28 : decode cX0_hoursTillAllKnow 28 = .ok (.bipush 24, 2) := by decide +kernel
theorem dX0_hoursTillAllKnow_30 : decode cX0_hoursTillAllKnow 30 = .ok (.if_icmp .gt 31, 3) := by decide +kernel
theorem dX0_hoursTillAllKnow_61 : decode cX0_hoursTillAllKnow 61 = .ok (.iconst (-1), 1) := by decide +kernel
theorem dX0_hoursTillAllKnow_62 : decode cX0_hoursTillAllKnow 62 = .ok (.ireturn, 1) := by decide +kernel
theorem dX0_hoursTillAllKnow_33 : decode cX0_hoursTillAllKnow 33 = .ok (.iload_n 3, 1) := by decide +kernel
theorem dX0_hoursTillAllKnow_34 : decode cX0_hoursTillAllKnow 34 = .ok (.ifCond .le 8, 3) := by decide +kernel
theorem dX0_hoursTillAllKnow_42 : decode cX0_hoursTillAllKnow 42 = .ok (.aload_n 0, 1) := by decide +kernel
theorem dX0_hoursTillAllKnow_43 : decode cX0_hoursTillAllKnow 43 = .ok (.getfield 28, 3) := by decide +kernel
theorem dX0_hoursTillAllKnow_46 : decode cX0_hoursTillAllKnow 46 = .ok (.aload_n 1, 1) := by decide +kernel
theorem dX0_hoursTillAllKnow_47 : decode cX0_hoursTillAllKnow 47 = .ok (.invokevirtual 45, 3) := by decide +kernel
theorem dX0_hoursTillAllKnow_50 : decode cX0_hoursTillAllKnow 50 = .ok (.if_icmp .ne 5, 3) := by decide +kernel
theorem dX0_hoursTillAllKnow_55 : decode cX0_hoursTillAllKnow 55 = .ok (.iinc 3 1, 3) := by decide +kernel
theorem dX0_hoursTillAllKnow_58 : decode cX0_hoursTillAllKnow 58 = .ok (.goto (-31), 3) := by decide +kernel
theorem dX0_hoursTillAllKnow_53 : decode cX0_hoursTillAllKnow 53 = .ok (.iload_n 3, 1) := by decide +kernel
theorem dX0_hoursTillAllKnow_54 : decode cX0_hoursTillAllKnow 54 = .ok (.ireturn, 1) := by decide +kernel
theorem dX0_hoursTillAllKnow_37 : decode cX0_hoursTillAllKnow 37 = .ok (.aload_n 0, 1) := by decide +kernel
theorem dX0_hoursTillAllKnow_38 : decode cX0_hoursTillAllKnow 38 = .ok (.iload_n 3, 1) := by decide +kernel
theorem dX0_hoursTillAllKnow_39 : decode cX0_hoursTillAllKnow 39 = .ok (.invokevirtual 41, 3) := by decide +kernel
theorem dX11_kept_10 : decode cX11_kept 10 = .ok (.aload_n 3, 1) := by decide +kernel
theorem dX11_kept_11 : decode cX11_kept 11 = .ok (.iload_n 2, 1) := by decide +kernel
theorem dX11_kept_12 : decode cX11_kept 12 = .ok (.invokevirtual 168, 3) := by decide +kernel
theorem dX11_kept_15 : decode cX11_kept 15 = .ok (.ifCond .ne 5, 3) := by decide +kernel
theorem dX11_kept_20 : decode cX11_kept 20 = .ok (.aload_n 0, 1) := by decide +kernel
theorem dX11_kept_21 : decode cX11_kept 21 = .ok (.getfield 66, 3) := by decide +kernel
theorem dX11_kept_24 : decode cX11_kept 24 = .ok (.aload_n 3, 1) := by decide +kernel
theorem dX11_kept_25 : decode cX11_kept 25 = .ok (.iload_n 2, 1) := by decide +kernel
theorem dX11_kept_26 : decode cX11_kept 26 = .ok (.invokevirtual 276, 3) := by decide +kernel
theorem dX11_kept_29 : decode cX11_kept 29 = .ok (.ireturn, 1) := by decide +kernel
def F_X10_nextOnCard (cd : Nat → Int32) (cl : Nat → Int32) (o : Nat) (ca : Nat) : Int32 := if nI ca < nI (tN (cl o)) then (cd (o * 6 + ca)) else ((-1 : Int32))
set_option maxHeartbeats 4000000 in
set_option maxRecDepth 100000 in
theorem K_X10_nextOnCard (l : Launch) (g : GG) (v : Nat) (v3 : Nat) (v4 : Nat) (v5 : Nat) (v6 : Nat) (v7 : Nat) (v8 : Nat) (v9 : Nat) (v10 : Nat) (v11 : Nat) (v12 : Nat) (v13 : Nat) (v15 : Nat) (pe : Int32) (lc : Int32) (de : Int32) (gl : Int32) (cd : Nat → Int32) (cl : Nat → Int32) (o : Nat) (ca : Nat) (ho : o < 7) (hclo : cl o = nI (tN (cl o))) (hcl6 : tN (cl o) ≤ 6) (hc : ca < 2 ^ 30) : MetI l g yX10_nextOnCard cX10_nextOnCard 3 (some .int) 0 0 0 [.ref v, .int (nI o), .int (nI ca)] [(v, .inr (10, [.int pe, .int lc, .int de, .ref v3, .ref v4, .ref v5, .ref v6, .ref v7, .ref v8, .ref v9, .ref v10, .ref v11, .ref v12, .ref v13, .int gl, .ref v15])), (v11, .inl (g.2.1 1, 42, .inl cd)), (v12, .inl (g.2.1 1, 7, .inl cl))] (fun r u => r = (F_X10_nextOnCard cd cl o ca) ∧ u = [(v, .inr (10, [.int pe, .int lc, .int de, .ref v3, .ref v4, .ref v5, .ref v6, .ref v7, .ref v8, .ref v9, .ref v10, .ref v11, .ref v12, .ref v13, .int gl, .ref v15])), (v11, .inl (g.2.1 1, 42, .inl cd)), (v12, .inl (g.2.1 1, 7, .inl cl))]) := by
  refine MetI.of (own := RX10) rfl (by decide) (Nat.le_of_ble_eq_true rfl) ?_
  intro p e s m below meth c A ls args Q hQ X hr hin hW hl
  have hx := X.1
  have hb := X.2.1
  have hl : lv_has ls 3 [(0, .ref v), (1, .int (nI o)), (2, .int (nI ca))] := hl
  refine lv_iload_n (pc := 0) hx hb dX10_nextOnCard_0 rfl (lv_at hl 2 rfl) ?_
  refine lv_aload_n (pc := 1) hx hb dX10_nextOnCard_1 rfl (lv_at hl 0 rfl) ?_
  refine r_get X hW 0 ciX10 12 rfl (by decide) m_313 rfl rfl dX10_nextOnCard_2 ?_
  refine lv_iload_n (pc := 5) hx hb dX10_nextOnCard_5 rfl (lv_at hl 1 rfl) ?_
  refine r_iald X hW 2 rfl (vp_in_nI (by omega) (by decide)) dX10_nextOnCard_6 ?_
  refine lv_topi (fun v1 ev1 => ?_)
  obtain rfl : v1 = cl o := ev1.trans (by rw [nI_clamp (by omega)])
  rw [hclo]
  refine lv_icmp_lt (tgt := 14) (pc := 7) hx hb dX10_nextOnCard_7 rfl (fun c2 => ?_) (fun c2 => ?_)
  · have h3 : ca < (tN (cl o)) := (nI_ltI (a := ca) (b := (tN (cl o))) (by omega) (by omega)).mp c2
    refine lv_aload_n (pc := 14) hx hb dX10_nextOnCard_14 rfl (lv_at hl 0 rfl) ?_
    refine r_get X hW 0 ciX10 11 rfl (by decide) m_312 rfl rfl dX10_nextOnCard_15 ?_
    refine lv_iload_n (pc := 18) hx hb dX10_nextOnCard_18 rfl (lv_at hl 1 rfl) ?_
    refine lv_bipush (v := 6) (pc := 19) hx hb dX10_nextOnCard_19 (by decide) ?_
    refine lv_imul (pc := 21) hx hb dX10_nextOnCard_21 ?_
    refine lv_topi (fun v4 ev4 => ?_)
    obtain rfl : v4 = nI (o * 6) := ev4.trans (pk_mul o 6)
    refine lv_iload_n (pc := 22) hx hb dX10_nextOnCard_22 rfl (lv_at hl 2 rfl) ?_
    refine lv_iadd (pc := 23) hx hb dX10_nextOnCard_23 ?_
    refine lv_topi (fun v5 ev5 => ?_)
    obtain rfl : v5 = nI (o * 6 + ca) := ev5.trans (nI_add _ _)
    refine r_iald X hW 1 rfl (vp_in_nI (by omega) (by decide)) dX10_nextOnCard_24 ?_
    refine lv_topi (fun v6 ev6 => ?_)
    obtain rfl : v6 = cd (o * 6 + ca) := ev6.trans (by rw [nI_clamp (by omega)])
    have hF : F_X10_nextOnCard cd cl o ca = cd (o * 6 + ca) := show F_X10_nextOnCard cd cl o ca = cd (o * 6 + ca) from by rw [F_X10_nextOnCard, if_pos c2]
    exact e_i (u := [(v, .inr (10, [.int pe, .int lc, .int de, .ref v3, .ref v4, .ref v5, .ref v6, .ref v7, .ref v8, .ref v9, .ref v10, .ref v11, .ref v12, .ref v13, .int gl, .ref v15])), (v11, .inl (g.2.1 1, 42, .inl cd)), (v12, .inl (g.2.1 1, 7, .inl cl))]) X hQ hr (hW) [0, 1, 2] rfl rfl (⟨hF.symm, rfl⟩) ⟨Nat.le_of_ble_eq_true rfl, Nat.le_of_ble_eq_true rfl⟩ dX10_nextOnCard_25
  · have h7 : ¬ (ca < (tN (cl o))) := fun q => c2 ((nI_ltI (a := ca) (b := (tN (cl o))) (by omega) (by omega)).mpr q)
    refine lv_iconst (v := (-1)) (pc := 10) hx hb dX10_nextOnCard_10 (by decide) ?_
    refine lv_goto (tgt := 25) (pc := 11) hx hb dX10_nextOnCard_11 rfl ?_
    have hF : F_X10_nextOnCard cd cl o ca = (-1 : Int32) := show F_X10_nextOnCard cd cl o ca = (-1 : Int32) from by rw [F_X10_nextOnCard, if_neg c2]
    exact e_i (u := [(v, .inr (10, [.int pe, .int lc, .int de, .ref v3, .ref v4, .ref v5, .ref v6, .ref v7, .ref v8, .ref v9, .ref v10, .ref v11, .ref v12, .ref v13, .int gl, .ref v15])), (v11, .inl (g.2.1 1, 42, .inl cd)), (v12, .inl (g.2.1 1, 7, .inl cl))]) X hQ hr (hW) [0, 1, 2] rfl rfl (⟨hF.symm, rfl⟩) ⟨Nat.le_of_ble_eq_true rfl, Nat.le_of_ble_eq_true rfl⟩ dX10_nextOnCard_25

theorem nc_at {cd cl : Nat → Int32} {o ca : Nat} (h6 : tN (cl o) ≤ 6) (hc : ca < 2 ^ 30) (h : ¬ F_X10_nextOnCard cd cl o ca = -1) : ca < tN (cl o) := by
  unfold F_X10_nextOnCard at h
  by_cases h1 : nI ca < nI (tN (cl o))
  · exact (nI_ltI (a := ca) (b := tN (cl o)) (by omega) (by omega)).mp h1
  · rw [if_neg h1] at h; exact absurd rfl h
def OK6 (f : Nat → Int32) : Prop := ∀ j : Nat, j < 7 → f j = nI (tN (f j)) ∧ tN (f j) ≤ 6
theorem ok6_0 : OK6 (fun _ => 0) := fun _ _ => ⟨rfl, Nat.zero_le _⟩
theorem ok6_up {f : Nat → Int32} {k n : Nat} (h : OK6 f) (hn : n ≤ 6) : OK6 (upd f k (nI n)) := fun j hj => by
  by_cases e : j = k
  · subst e; rw [upd_eq, tN_nI (by omega)]; exact ⟨rfl, hn⟩
  · rw [upd_ne e]; exact h j hj
def L1_X0_callOns (kn : Int32) (K : Nat → Int32) (cd : Nat → Int32) (cl : Nat → Int32) (ho : Nat) (j1 : Nat) (x2_1 : Int32) (fyc_1 : Nat → Int32) : Int32 × (Nat → Int32) := if hasv kn (nI j1) = 0 then ((x2_1, fyc_1)) else (if F_X10_nextOnCard cd cl j1 (tN (fyc_1 j1)) = (-1) then ((x2_1, fyc_1)) else (if hasv (F_X10_callable K j1 ho) (F_X10_nextOnCard cd cl j1 (tN (fyc_1 j1))) = 0 then ((x2_1, fyc_1)) else (if hasv x2_1 (F_X10_nextOnCard cd cl j1 (tN (fyc_1 j1))) = 0 then ((x2_1 ||| ((1 : Int32) <<< ((F_X10_nextOnCard cd cl j1 (tN (fyc_1 j1))) &&& 31)), (upd fyc_1 j1 (nI (tN (fyc_1 j1) + 1))))) else ((x2_1, fyc_1)))))
def L1_X0_callOn (kn : Int32) (K : Nat → Int32) (cd : Nat → Int32) (cl : Nat → Int32) (ho : Nat) (i0_ : Int32) (i1_ : Nat → Int32) : Nat → Int32 × (Nat → Int32)
  | 0 => (i0_, i1_)
  | k_ + 1 => L1_X0_callOns kn K cd cl ho k_ ((L1_X0_callOn kn K cd cl ho i0_ i1_ k_).1) ((L1_X0_callOn kn K cd cl ho i0_ i1_ k_).2)
def F_X0_callOn (kn : Int32) (on : Int32) (cN : Nat → Int32) (pe : Nat) (de : Int32) (K : Nat → Int32) (cd : Nat → Int32) (cl : Nat → Int32) (ho : Nat) : (Nat → Int32) × Int32 × Int32 := (((L1_X0_callOn kn K cd cl ho (0 : Int32) cN pe).2), kn ||| ((((L1_X0_callOn kn K cd cl ho (0 : Int32) cN pe).1) &&& (kn ^^^ (-1 : Int32))) &&& ((de ^^^ (-1 : Int32)) ||| on)), on ||| (((L1_X0_callOn kn K cd cl ho (0 : Int32) cN pe).1) &&& (kn ^^^ (-1 : Int32))))
set_option maxHeartbeats 4000000 in
set_option maxRecDepth 100000 in
theorem K_X0_callOn (l : Launch) (g : GG) (y0 : Nat) (yc : Nat) (yt : Nat) (yh : Nat) (yo : Nat) (kn : Int32) (on : Int32) (cN : Nat → Int32) (v : Nat) (v3 : Nat) (v4 : Nat) (v5 : Nat) (v6 : Nat) (v7 : Nat) (v8 : Nat) (v9 : Nat) (v10 : Nat) (v11 : Nat) (v12 : Nat) (v13 : Nat) (v15 : Nat) (pe : Nat) (lc : Int32) (de : Int32) (gl : Int32) (K : Nat → Int32) (cd : Nat → Int32) (cl : Nat → Int32) (ho : Nat) (hcl : OK6 cl) (hcN : OK6 cN) (hpe : pe ≤ 7) (hho : ho ≤ 24) : MetV l g yX0_callOn cX0_callOn 5 none 1 0 0 [.ref y0, .int (nI ho)] [(y0, .inr (0, [.ref v, .int kn, .int on, .ref yc, .ref yt, .ref yh, .ref yo])), (yc, .inl (g.2.1 1, 7, .inl cN)), (v, .inr (10, [.int (nI pe), .int lc, .int de, .ref v3, .ref v4, .ref v5, .ref v6, .ref v7, .ref v8, .ref v9, .ref v10, .ref v11, .ref v12, .ref v13, .int gl, .ref v15])), (v10, .inl (g.2.1 1, 175, .inl K)), (v11, .inl (g.2.1 1, 42, .inl cd)), (v12, .inl (g.2.1 1, 7, .inl cl))] (fun u => u = [(y0, .inr (0, [.ref v, .int ((F_X0_callOn kn on cN pe de K cd cl ho).2.1), .int ((F_X0_callOn kn on cN pe de K cd cl ho).2.2), .ref yc, .ref yt, .ref yh, .ref yo])), (yc, .inl (g.2.1 1, 7, .inl ((F_X0_callOn kn on cN pe de K cd cl ho).1))), (v, .inr (10, [.int (nI pe), .int lc, .int de, .ref v3, .ref v4, .ref v5, .ref v6, .ref v7, .ref v8, .ref v9, .ref v10, .ref v11, .ref v12, .ref v13, .int gl, .ref v15])), (v10, .inl (g.2.1 1, 175, .inl K)), (v11, .inl (g.2.1 1, 42, .inl cd)), (v12, .inl (g.2.1 1, 7, .inl cl))]) := by
  refine MetV.of (own := RX0) rfl (by decide) (Nat.le_of_ble_eq_true rfl) ?_
  intro p e s m below meth c A ls args Q hQ X hr hin hW hl
  have hx := X.1
  have hb := X.2.1
  have hl : lv_has ls 5 [(0, .ref y0), (1, .int (nI ho))] := hl
  refine lv_iconst (v := 0) (pc := 0) hx hb dX0_callOn_0 (by decide) ?_
  refine lv_istore_n (lv' := [(2, .int 0), (0, .ref y0), (1, .int (nI ho))]) (pc := 1) hx hb dX0_callOn_1 rfl hl (by decide) rfl (fun ls hl => ?_)
  refine lv_iconst (v := 0) (pc := 2) hx hb dX0_callOn_2 (by decide) ?_
  refine lv_istore_n (lv' := [(3, .int 0), (2, .int 0), (0, .ref y0), (1, .int (nI ho))]) (pc := 3) hx hb dX0_callOn_3 rfl hl (by decide) rfl (fun ls hl => ?_)
  have loop1 : ∀ (fu1 : Nat) (j1 : Nat) (x2_1 : Int32) (fyc_1 : Nat → Int32), (pe < fu1 + j1) → (j1 ≤ pe) → (OK6 fyc_1) → ((x2_1, fyc_1) = L1_X0_callOn kn K cd cl ho (0 : Int32) cN j1) → ∀ (H : Heap) (locs : List Loc) (ls : Array Slot), WD g A s H locs [(y0, .inr (0, [.ref v, .int kn, .int on, .ref yc, .ref yt, .ref yh, .ref yo])), (yc, .inl (g.2.1 1, 7, .inl fyc_1)), (v, .inr (10, [.int (nI pe), .int lc, .int de, .ref v3, .ref v4, .ref v5, .ref v6, .ref v7, .ref v8, .ref v9, .ref v10, .ref v11, .ref v12, .ref v13, .int gl, .ref v15])), (v10, .inl (g.2.1 1, 175, .inl K)), (v11, .inl (g.2.1 1, 42, .inl cd)), (v12, .inl (g.2.1 1, 7, .inl cl))] → lv_has ls 5 [(3, .int (nI j1)), (2, .int x2_1), (0, .ref y0), (1, .int (nI ho))] → W p l e (RM 1 0 0) s m args below meth c H locs 0 0 Q (F0 m 4 ls []) := by
    intro fu1
    induction fu1 with
    | zero =>
      intro j1 x2_1 fyc_1 hm1 hj1 hcn1 hst1
      exact absurd hm1 (by omega)
    | succ fu1 ih1 =>
      intro j1 x2_1 fyc_1 hm1 hj1 hcn1 hst1 H locs ls hW hl
      refine lv_iload_n (pc := 4) hx hb dX0_callOn_4 rfl (lv_at hl 0 rfl) ?_
      refine lv_aload_n (pc := 5) hx hb dX0_callOn_5 rfl (lv_at hl 2 rfl) ?_
      refine r_get X hW 0 ciX0 0 rfl (by decide) m_230 rfl rfl dX0_callOn_6 ?_
      refine r_getN X hW 2 ciX10 0 rfl (by decide) m_273 rfl rfl dX0_callOn_9 ?_
      refine lv_icmp_ge (tgt := 101) (pc := 12) hx hb dX0_callOn_12 rfl (fun c1 => ?_) (fun c1 => ?_)
      · have h2 : pe ≤ j1 := (nI_leI (a := pe) (b := j1) (by omega) (by omega)).mp c1
        have hN1 : j1 = pe := by omega
        rw [hN1] at hst1
        have hs1_0 : x2_1 = (L1_X0_callOn kn K cd cl ho (0 : Int32) cN pe).1 := congrArg (fun z => z.1) hst1
        have hs1_1 : fyc_1 = (L1_X0_callOn kn K cd cl ho (0 : Int32) cN pe).2 := congrArg (fun z => z.2) hst1
        clear hst1
        subst hs1_0
        subst hs1_1
        have hW : WD g A s _ _ [(y0, .inr (0, [.ref v, .int kn, .int on, .ref yc, .ref yt, .ref yh, .ref yo])), (yc, .inl (g.2.1 1, 7, .inl ((L1_X0_callOn kn K cd cl ho (0 : Int32) cN pe).2))), (v, .inr (10, [.int (nI pe), .int lc, .int de, .ref v3, .ref v4, .ref v5, .ref v6, .ref v7, .ref v8, .ref v9, .ref v10, .ref v11, .ref v12, .ref v13, .int gl, .ref v15])), (v10, .inl (g.2.1 1, 175, .inl K)), (v11, .inl (g.2.1 1, 42, .inl cd)), (v12, .inl (g.2.1 1, 7, .inl cl))] := hW
        refine lv_iload_n (pc := 101) hx hb dX0_callOn_101 rfl (lv_at hl 1 rfl) ?_
        refine lv_aload_n (pc := 102) hx hb dX0_callOn_102 rfl (lv_at hl 2 rfl) ?_
        refine r_get X hW 0 ciX0 1 rfl (by decide) m_231 rfl rfl dX0_callOn_103 ?_
        refine lv_iconst (v := (-1)) (pc := 106) hx hb dX0_callOn_106 (by decide) ?_
        refine lv_ixor (pc := 107) hx hb dX0_callOn_107 ?_
        refine lv_iand (pc := 108) hx hb dX0_callOn_108 ?_
        refine lv_istore_n (lv' := [(3, .int (((L1_X0_callOn kn K cd cl ho (0 : Int32) cN pe).1) &&& (kn ^^^ (-1 : Int32)))), (2, .int ((L1_X0_callOn kn K cd cl ho (0 : Int32) cN pe).1)), (0, .ref y0), (1, .int (nI ho))]) (pc := 109) hx hb dX0_callOn_109 rfl hl (by decide) rfl (fun ls hl => ?_)
        refine lv_aload_n (pc := 110) hx hb dX0_callOn_110 rfl (lv_at hl 2 rfl) ?_
        refine lv_dup (pc := 111) hx hb dX0_callOn_111 rfl ?_
        refine r_get X hW 0 ciX0 1 rfl (by decide) m_231 rfl rfl dX0_callOn_112 ?_
        refine lv_iload_n (pc := 115) hx hb dX0_callOn_115 rfl (lv_at hl 0 rfl) ?_
        refine lv_aload_n (pc := 116) hx hb dX0_callOn_116 rfl (lv_at hl 2 rfl) ?_
        refine r_get X hW 0 ciX0 0 rfl (by decide) m_230 rfl rfl dX0_callOn_117 ?_
        refine r_getN X hW 2 ciX10 2 rfl (by decide) m_287 rfl rfl dX0_callOn_120 ?_
        refine lv_iconst (v := (-1)) (pc := 123) hx hb dX0_callOn_123 (by decide) ?_
        refine lv_ixor (pc := 124) hx hb dX0_callOn_124 ?_
        refine lv_aload_n (pc := 125) hx hb dX0_callOn_125 rfl (lv_at hl 2 rfl) ?_
        refine r_get X hW 0 ciX0 2 rfl (by decide) m_232 rfl rfl dX0_callOn_126 ?_
        refine lv_ior (pc := 129) hx hb dX0_callOn_129 ?_
        refine lv_iand (pc := 130) hx hb dX0_callOn_130 ?_
        refine lv_ior (pc := 131) hx hb dX0_callOn_131 ?_
        refine r_put (ws' := [(y0, .inr (0, [.ref v, .int (kn ||| ((((L1_X0_callOn kn K cd cl ho (0 : Int32) cN pe).1) &&& (kn ^^^ (-1 : Int32))) &&& ((de ^^^ (-1 : Int32)) ||| on))), .int on, .ref yc, .ref yt, .ref yh, .ref yo])), (yc, .inl (g.2.1 1, 7, .inl ((L1_X0_callOn kn K cd cl ho (0 : Int32) cN pe).2))), (v, .inr (10, [.int (nI pe), .int lc, .int de, .ref v3, .ref v4, .ref v5, .ref v6, .ref v7, .ref v8, .ref v9, .ref v10, .ref v11, .ref v12, .ref v13, .int gl, .ref v15])), (v10, .inl (g.2.1 1, 175, .inl K)), (v11, .inl (g.2.1 1, 42, .inl cd)), (v12, .inl (g.2.1 1, 7, .inl cl))]) X hW 0 ciX0 1 rfl (by decide) m_231 rfl rfl rfl rfl (Nat.le_of_ble_eq_true rfl) rfl dX0_callOn_132 (fun H locs hW => ?_)
        refine lv_aload_n (pc := 135) hx hb dX0_callOn_135 rfl (lv_at hl 2 rfl) ?_
        refine lv_dup (pc := 136) hx hb dX0_callOn_136 rfl ?_
        refine r_get X hW 0 ciX0 2 rfl (by decide) m_232 rfl rfl dX0_callOn_137 ?_
        refine lv_iload_n (pc := 140) hx hb dX0_callOn_140 rfl (lv_at hl 0 rfl) ?_
        refine lv_ior (pc := 141) hx hb dX0_callOn_141 ?_
        refine r_put (ws' := [(y0, .inr (0, [.ref v, .int (kn ||| ((((L1_X0_callOn kn K cd cl ho (0 : Int32) cN pe).1) &&& (kn ^^^ (-1 : Int32))) &&& ((de ^^^ (-1 : Int32)) ||| on))), .int (on ||| (((L1_X0_callOn kn K cd cl ho (0 : Int32) cN pe).1) &&& (kn ^^^ (-1 : Int32)))), .ref yc, .ref yt, .ref yh, .ref yo])), (yc, .inl (g.2.1 1, 7, .inl ((L1_X0_callOn kn K cd cl ho (0 : Int32) cN pe).2))), (v, .inr (10, [.int (nI pe), .int lc, .int de, .ref v3, .ref v4, .ref v5, .ref v6, .ref v7, .ref v8, .ref v9, .ref v10, .ref v11, .ref v12, .ref v13, .int gl, .ref v15])), (v10, .inl (g.2.1 1, 175, .inl K)), (v11, .inl (g.2.1 1, 42, .inl cd)), (v12, .inl (g.2.1 1, 7, .inl cl))]) X hW 0 ciX0 2 rfl (by decide) m_232 rfl rfl rfl rfl (Nat.le_of_ble_eq_true rfl) rfl dX0_callOn_142 (fun H locs hW => ?_)
        have hF : F_X0_callOn kn on cN pe de K cd cl ho = (((L1_X0_callOn kn K cd cl ho (0 : Int32) cN pe).2), kn ||| ((((L1_X0_callOn kn K cd cl ho (0 : Int32) cN pe).1) &&& (kn ^^^ (-1 : Int32))) &&& ((de ^^^ (-1 : Int32)) ||| on)), on ||| (((L1_X0_callOn kn K cd cl ho (0 : Int32) cN pe).1) &&& (kn ^^^ (-1 : Int32)))) := show F_X0_callOn kn on cN pe de K cd cl ho = (((L1_X0_callOn kn K cd cl ho (0 : Int32) cN pe).2), kn ||| ((((L1_X0_callOn kn K cd cl ho (0 : Int32) cN pe).1) &&& (kn ^^^ (-1 : Int32))) &&& ((de ^^^ (-1 : Int32)) ||| on)), on ||| (((L1_X0_callOn kn K cd cl ho (0 : Int32) cN pe).1) &&& (kn ^^^ (-1 : Int32)))) from rfl
        exact e_v (u := [(y0, .inr (0, [.ref v, .int (kn ||| ((((L1_X0_callOn kn K cd cl ho (0 : Int32) cN pe).1) &&& (kn ^^^ (-1 : Int32))) &&& ((de ^^^ (-1 : Int32)) ||| on))), .int (on ||| (((L1_X0_callOn kn K cd cl ho (0 : Int32) cN pe).1) &&& (kn ^^^ (-1 : Int32)))), .ref yc, .ref yt, .ref yh, .ref yo])), (yc, .inl (g.2.1 1, 7, .inl ((L1_X0_callOn kn K cd cl ho (0 : Int32) cN pe).2))), (v, .inr (10, [.int (nI pe), .int lc, .int de, .ref v3, .ref v4, .ref v5, .ref v6, .ref v7, .ref v8, .ref v9, .ref v10, .ref v11, .ref v12, .ref v13, .int gl, .ref v15])), (v10, .inl (g.2.1 1, 175, .inl K)), (v11, .inl (g.2.1 1, 42, .inl cd)), (v12, .inl (g.2.1 1, 7, .inl cl))]) X hQ hr (hW) [0, 1, 2, 3, 4, 5] rfl rfl (by rw [hF]) ⟨Nat.le_of_ble_eq_true rfl, Nat.le_of_ble_eq_true rfl⟩ dX0_callOn_145
      · have h3 : ¬ (pe ≤ j1) := fun q => c1 ((nI_leI (a := pe) (b := j1) (by omega) (by omega)).mpr q)
        refine lv_aload_n (pc := 15) hx hb dX0_callOn_15 rfl (lv_at hl 2 rfl) ?_
        refine r_get X hW 0 ciX0 1 rfl (by decide) m_231 rfl rfl dX0_callOn_16 ?_
        refine lv_iload_n (pc := 19) hx hb dX0_callOn_19 rfl (lv_at hl 0 rfl) ?_
        refine c_SNi (pc := 20) (As := [.int kn, .int (nI j1)]) (rest := []) (wr := [(y0, .inr (0, [.ref v, .int kn, .int on, .ref yc, .ref yt, .ref yh, .ref yo])), (yc, .inl (g.2.1 1, 7, .inl fyc_1)), (v, .inr (10, [.int (nI pe), .int lc, .int de, .ref v3, .ref v4, .ref v5, .ref v6, .ref v7, .ref v8, .ref v9, .ref v10, .ref v11, .ref v12, .ref v13, .int gl, .ref v15])), (v10, .inl (g.2.1 1, 175, .inl K)), (v11, .inl (g.2.1 1, 42, .inl cd)), (v12, .inl (g.2.1 1, 7, .inl cl))]) X hW (C_X11_has l g kn (nI j1)) vX0_54 [] [0, 1, 2, 3, 4, 5] rfl rfl rfl rfl rfl rfl hl.1 rfl (Nat.le_of_ble_eq_true rfl) ⟨Nat.le_of_ble_eq_true rfl, Nat.le_of_ble_eq_true rfl⟩ ⟨Nat.le_of_ble_eq_true rfl, Nat.le_of_ble_eq_true rfl⟩ dX0_callOn_20 (fun r4 u9 H locs hq hW => ?_)
        obtain ⟨rfl, rfl⟩ := hq
        have hW : WD g A s _ _ [(y0, .inr (0, [.ref v, .int kn, .int on, .ref yc, .ref yt, .ref yh, .ref yo])), (yc, .inl (g.2.1 1, 7, .inl fyc_1)), (v, .inr (10, [.int (nI pe), .int lc, .int de, .ref v3, .ref v4, .ref v5, .ref v6, .ref v7, .ref v8, .ref v9, .ref v10, .ref v11, .ref v12, .ref v13, .int gl, .ref v15])), (v10, .inl (g.2.1 1, 175, .inl K)), (v11, .inl (g.2.1 1, 42, .inl cd)), (v12, .inl (g.2.1 1, 7, .inl cl))] := hW
        refine lv_if_eq (tgt := 43) (pc := 23) hx hb dX0_callOn_23 rfl (fun c5 => ?_) (fun c5 => ?_)
        · refine lv_iconst (v := (-1)) (pc := 43) hx hb dX0_callOn_43 (by decide) ?_
          refine lv_istore (lv' := [(4, .int (-1)), (3, .int (nI j1)), (2, .int x2_1), (0, .ref y0), (1, .int (nI ho))]) (pc := 44) hx hb dX0_callOn_44 hl (by decide) rfl (fun ls hl => ?_)
          refine lv_iload (pc := 46) hx hb dX0_callOn_46 (lv_at hl 0 rfl) ?_
          refine lv_iconst (v := (-1)) (pc := 48) hx hb dX0_callOn_48 (by decide) ?_
          refine lv_icmp_eq (tgt := 95) (pc := 49) hx hb dX0_callOn_49 rfl (fun c7 => ?_) (fun c7 => absurd (by decide) c7)
          refine lv_iinc (v := nI (j1 + 1)) (lv' := [(3, .int (nI (j1 + 1))), (4, .int (-1)), (2, .int x2_1), (0, .ref y0), (1, .int (nI ho))]) (pc := 95) hx hb dX0_callOn_95 hl (k := 1) rfl (nI_add j1 1) (by decide) rfl (fun ls hl => ?_)
          refine lv_goto (tgt := 4) (pc := 98) hx hb dX0_callOn_98 rfl ?_
          exact ih1 (j1 + 1) x2_1 fyc_1 (by omega) (by omega) (by first | exact hcn1 | exact ok6_up hcn1 (by omega)) (by rw [L1_X0_callOn, ← hst1]; exact (show L1_X0_callOns kn K cd cl ho j1 x2_1 fyc_1 = (x2_1, fyc_1) from by rw [L1_X0_callOns, if_pos c5]).symm) _ _ _ hW (lv_sub hl [0, 2, 3, 4] rfl)
        · refine lv_aload_n (pc := 26) hx hb dX0_callOn_26 rfl (lv_at hl 2 rfl) ?_
          refine r_get X hW 0 ciX0 0 rfl (by decide) m_230 rfl rfl dX0_callOn_27 ?_
          refine lv_iload_n (pc := 30) hx hb dX0_callOn_30 rfl (lv_at hl 0 rfl) ?_
          refine lv_aload_n (pc := 31) hx hb dX0_callOn_31 rfl (lv_at hl 2 rfl) ?_
          refine r_get X hW 0 ciX0 3 rfl (by decide) m_233 rfl rfl dX0_callOn_32 ?_
          refine lv_iload_n (pc := 35) hx hb dX0_callOn_35 rfl (lv_at hl 0 rfl) ?_
          refine r_iald X hW 1 rfl (vp_in_nI (by omega) (by decide)) dX0_callOn_36 ?_
          refine lv_topi (fun v9 ev9 => ?_)
          obtain rfl : v9 = fyc_1 j1 := ev9.trans (by rw [nI_clamp (by omega)])
          have hg := hcn1 j1 (by omega)
          have hg2 := hg.2
          rw [show fyc_1 j1 = nI (tN (fyc_1 j1)) from hg.1]
          refine c_Vi (pc := 37) (As := [.int (nI j1), .int (nI (tN (fyc_1 j1)))]) (rest := []) (wr := [(y0, .inr (0, [.ref v, .int kn, .int on, .ref yc, .ref yt, .ref yh, .ref yo])), (yc, .inl (g.2.1 1, 7, .inl fyc_1)), (v10, .inl (g.2.1 1, 175, .inl K))]) X hW 2 ciX10 rfl (K_X10_nextOnCard l g v v3 v4 v5 v6 v7 v8 v9 v10 v11 v12 v13 v15 (nI pe) lc de gl cd cl j1 (tN (fyc_1 j1)) (by omega) (hcl j1 (by omega)).1 (hcl j1 (by omega)).2 (by omega)) vX0_58 [2, 4, 5] [0, 1, 3] rfl rfl rfl rfl rfl rfl hl.1 rfl (Nat.le_of_ble_eq_true rfl) ⟨Nat.le_of_ble_eq_true rfl, Nat.le_of_ble_eq_true rfl⟩ ⟨Nat.le_of_ble_eq_true rfl, Nat.le_of_ble_eq_true rfl⟩ dX0_callOn_37 (fun r10 u9 H locs hq hW => ?_)
          obtain ⟨rfl, rfl⟩ := hq
          have hW : WD g A s _ _ [(y0, .inr (0, [.ref v, .int kn, .int on, .ref yc, .ref yt, .ref yh, .ref yo])), (yc, .inl (g.2.1 1, 7, .inl fyc_1)), (v10, .inl (g.2.1 1, 175, .inl K)), (v, .inr (10, [.int (nI pe), .int lc, .int de, .ref v3, .ref v4, .ref v5, .ref v6, .ref v7, .ref v8, .ref v9, .ref v10, .ref v11, .ref v12, .ref v13, .int gl, .ref v15])), (v11, .inl (g.2.1 1, 42, .inl cd)), (v12, .inl (g.2.1 1, 7, .inl cl))] := hW
          refine lv_goto (tgt := 44) (pc := 40) hx hb dX0_callOn_40 rfl ?_
          refine lv_istore (lv' := [(4, .int (F_X10_nextOnCard cd cl j1 (tN (fyc_1 j1)))), (3, .int (nI j1)), (2, .int x2_1), (0, .ref y0), (1, .int (nI ho))]) (pc := 44) hx hb dX0_callOn_44 hl (by decide) rfl (fun ls hl => ?_)
          refine lv_iload (pc := 46) hx hb dX0_callOn_46 (lv_at hl 0 rfl) ?_
          refine lv_iconst (v := (-1)) (pc := 48) hx hb dX0_callOn_48 (by decide) ?_
          refine lv_icmp_eq (tgt := 95) (pc := 49) hx hb dX0_callOn_49 rfl (fun c11 => ?_) (fun c11 => ?_)
          · refine lv_iinc (v := nI (j1 + 1)) (lv' := [(3, .int (nI (j1 + 1))), (4, .int (F_X10_nextOnCard cd cl j1 (tN (fyc_1 j1)))), (2, .int x2_1), (0, .ref y0), (1, .int (nI ho))]) (pc := 95) hx hb dX0_callOn_95 hl (k := 1) rfl (nI_add j1 1) (by decide) rfl (fun ls hl => ?_)
            refine lv_goto (tgt := 4) (pc := 98) hx hb dX0_callOn_98 rfl ?_
            have hW : WD g A s _ _ [(y0, .inr (0, [.ref v, .int kn, .int on, .ref yc, .ref yt, .ref yh, .ref yo])), (yc, .inl (g.2.1 1, 7, .inl fyc_1)), (v, .inr (10, [.int (nI pe), .int lc, .int de, .ref v3, .ref v4, .ref v5, .ref v6, .ref v7, .ref v8, .ref v9, .ref v10, .ref v11, .ref v12, .ref v13, .int gl, .ref v15])), (v10, .inl (g.2.1 1, 175, .inl K)), (v11, .inl (g.2.1 1, 42, .inl cd)), (v12, .inl (g.2.1 1, 7, .inl cl))] := hW.pick [0, 1, 3, 2, 4, 5] rfl rfl
            exact ih1 (j1 + 1) x2_1 fyc_1 (by omega) (by omega) (by first | exact hcn1 | exact ok6_up hcn1 (by omega)) (by rw [L1_X0_callOn, ← hst1]; exact (show L1_X0_callOns kn K cd cl ho j1 x2_1 fyc_1 = (x2_1, fyc_1) from by rw [L1_X0_callOns, if_neg c5, if_pos c11]).symm) _ _ _ hW (lv_sub hl [0, 2, 3, 4] rfl)
          · have q52 := c11
            refine lv_aload_n (pc := 52) hx hb dX0_callOn_52 rfl (lv_at hl 3 rfl) ?_
            refine r_get X hW 0 ciX0 0 rfl (by decide) m_230 rfl rfl dX0_callOn_53 ?_
            refine lv_iload_n (pc := 56) hx hb dX0_callOn_56 rfl (lv_at hl 1 rfl) ?_
            refine lv_iload_n (pc := 57) hx hb dX0_callOn_57 rfl (lv_at hl 4 rfl) ?_
            refine c_Vi (pc := 58) (As := [.int (nI j1), .int (nI ho)]) (rest := []) (wr := [(y0, .inr (0, [.ref v, .int kn, .int on, .ref yc, .ref yt, .ref yh, .ref yo])), (yc, .inl (g.2.1 1, 7, .inl fyc_1)), (v11, .inl (g.2.1 1, 42, .inl cd)), (v12, .inl (g.2.1 1, 7, .inl cl))]) X hW 3 ciX10 rfl (K_X10_callable l g v v3 v4 v5 v6 v7 v8 v9 v10 v11 v12 v13 v15 (nI pe) lc de gl K j1 ho (by omega) (by omega)) vX0_62 [3, 2] [0, 1, 4, 5] rfl rfl rfl rfl rfl rfl hl.1 rfl (Nat.le_of_ble_eq_true rfl) ⟨Nat.le_of_ble_eq_true rfl, Nat.le_of_ble_eq_true rfl⟩ ⟨Nat.le_of_ble_eq_true rfl, Nat.le_of_ble_eq_true rfl⟩ dX0_callOn_58 (fun r14 u9 H locs hq hW => ?_)
            obtain ⟨rfl, rfl⟩ := hq
            have hW : WD g A s _ _ [(y0, .inr (0, [.ref v, .int kn, .int on, .ref yc, .ref yt, .ref yh, .ref yo])), (yc, .inl (g.2.1 1, 7, .inl fyc_1)), (v11, .inl (g.2.1 1, 42, .inl cd)), (v12, .inl (g.2.1 1, 7, .inl cl)), (v, .inr (10, [.int (nI pe), .int lc, .int de, .ref v3, .ref v4, .ref v5, .ref v6, .ref v7, .ref v8, .ref v9, .ref v10, .ref v11, .ref v12, .ref v13, .int gl, .ref v15])), (v10, .inl (g.2.1 1, 175, .inl K))] := hW
            refine lv_iload (pc := 61) hx hb dX0_callOn_61 (lv_at hl 0 rfl) ?_
            refine c_SNi (pc := 63) (As := [.int (F_X10_callable K j1 ho), .int (F_X10_nextOnCard cd cl j1 (tN (fyc_1 j1)))]) (rest := []) (wr := [(y0, .inr (0, [.ref v, .int kn, .int on, .ref yc, .ref yt, .ref yh, .ref yo])), (yc, .inl (g.2.1 1, 7, .inl fyc_1)), (v11, .inl (g.2.1 1, 42, .inl cd)), (v12, .inl (g.2.1 1, 7, .inl cl)), (v, .inr (10, [.int (nI pe), .int lc, .int de, .ref v3, .ref v4, .ref v5, .ref v6, .ref v7, .ref v8, .ref v9, .ref v10, .ref v11, .ref v12, .ref v13, .int gl, .ref v15])), (v10, .inl (g.2.1 1, 175, .inl K))]) X hW (C_X11_has l g (F_X10_callable K j1 ho) (F_X10_nextOnCard cd cl j1 (tN (fyc_1 j1)))) vX0_54 [] [0, 1, 2, 3, 4, 5] rfl rfl rfl rfl rfl rfl hl.1 rfl (Nat.le_of_ble_eq_true rfl) ⟨Nat.le_of_ble_eq_true rfl, Nat.le_of_ble_eq_true rfl⟩ ⟨Nat.le_of_ble_eq_true rfl, Nat.le_of_ble_eq_true rfl⟩ dX0_callOn_63 (fun r15 u9 H locs hq hW => ?_)
            obtain ⟨rfl, rfl⟩ := hq
            have hW : WD g A s _ _ [(y0, .inr (0, [.ref v, .int kn, .int on, .ref yc, .ref yt, .ref yh, .ref yo])), (yc, .inl (g.2.1 1, 7, .inl fyc_1)), (v11, .inl (g.2.1 1, 42, .inl cd)), (v12, .inl (g.2.1 1, 7, .inl cl)), (v, .inr (10, [.int (nI pe), .int lc, .int de, .ref v3, .ref v4, .ref v5, .ref v6, .ref v7, .ref v8, .ref v9, .ref v10, .ref v11, .ref v12, .ref v13, .int gl, .ref v15])), (v10, .inl (g.2.1 1, 175, .inl K))] := hW
            refine lv_if_eq (tgt := 95) (pc := 66) hx hb dX0_callOn_66 rfl (fun c16 => ?_) (fun c16 => ?_)
            · refine lv_iinc (v := nI (j1 + 1)) (lv' := [(3, .int (nI (j1 + 1))), (4, .int (F_X10_nextOnCard cd cl j1 (tN (fyc_1 j1)))), (2, .int x2_1), (0, .ref y0), (1, .int (nI ho))]) (pc := 95) hx hb dX0_callOn_95 hl (k := 1) rfl (nI_add j1 1) (by decide) rfl (fun ls hl => ?_)
              refine lv_goto (tgt := 4) (pc := 98) hx hb dX0_callOn_98 rfl ?_
              have hW : WD g A s _ _ [(y0, .inr (0, [.ref v, .int kn, .int on, .ref yc, .ref yt, .ref yh, .ref yo])), (yc, .inl (g.2.1 1, 7, .inl fyc_1)), (v, .inr (10, [.int (nI pe), .int lc, .int de, .ref v3, .ref v4, .ref v5, .ref v6, .ref v7, .ref v8, .ref v9, .ref v10, .ref v11, .ref v12, .ref v13, .int gl, .ref v15])), (v10, .inl (g.2.1 1, 175, .inl K)), (v11, .inl (g.2.1 1, 42, .inl cd)), (v12, .inl (g.2.1 1, 7, .inl cl))] := hW.pick [0, 1, 4, 5, 2, 3] rfl rfl
              exact ih1 (j1 + 1) x2_1 fyc_1 (by omega) (by omega) (by first | exact hcn1 | exact ok6_up hcn1 (by omega)) (by rw [L1_X0_callOn, ← hst1]; exact (show L1_X0_callOns kn K cd cl ho j1 x2_1 fyc_1 = (x2_1, fyc_1) from by rw [L1_X0_callOns, if_neg c5, if_neg c11, if_pos c16]).symm) _ _ _ hW (lv_sub hl [0, 2, 3, 4] rfl)
            · refine lv_iload_n (pc := 69) hx hb dX0_callOn_69 rfl (lv_at hl 2 rfl) ?_
              refine lv_iload (pc := 70) hx hb dX0_callOn_70 (lv_at hl 0 rfl) ?_
              refine c_SNi (pc := 72) (As := [.int x2_1, .int (F_X10_nextOnCard cd cl j1 (tN (fyc_1 j1)))]) (rest := []) (wr := [(y0, .inr (0, [.ref v, .int kn, .int on, .ref yc, .ref yt, .ref yh, .ref yo])), (yc, .inl (g.2.1 1, 7, .inl fyc_1)), (v11, .inl (g.2.1 1, 42, .inl cd)), (v12, .inl (g.2.1 1, 7, .inl cl)), (v, .inr (10, [.int (nI pe), .int lc, .int de, .ref v3, .ref v4, .ref v5, .ref v6, .ref v7, .ref v8, .ref v9, .ref v10, .ref v11, .ref v12, .ref v13, .int gl, .ref v15])), (v10, .inl (g.2.1 1, 175, .inl K))]) X hW (C_X11_has l g x2_1 (F_X10_nextOnCard cd cl j1 (tN (fyc_1 j1)))) vX0_54 [] [0, 1, 2, 3, 4, 5] rfl rfl rfl rfl rfl rfl hl.1 rfl (Nat.le_of_ble_eq_true rfl) ⟨Nat.le_of_ble_eq_true rfl, Nat.le_of_ble_eq_true rfl⟩ ⟨Nat.le_of_ble_eq_true rfl, Nat.le_of_ble_eq_true rfl⟩ dX0_callOn_72 (fun r19 u9 H locs hq hW => ?_)
              obtain ⟨rfl, rfl⟩ := hq
              have hW : WD g A s _ _ [(y0, .inr (0, [.ref v, .int kn, .int on, .ref yc, .ref yt, .ref yh, .ref yo])), (yc, .inl (g.2.1 1, 7, .inl fyc_1)), (v11, .inl (g.2.1 1, 42, .inl cd)), (v12, .inl (g.2.1 1, 7, .inl cl)), (v, .inr (10, [.int (nI pe), .int lc, .int de, .ref v3, .ref v4, .ref v5, .ref v6, .ref v7, .ref v8, .ref v9, .ref v10, .ref v11, .ref v12, .ref v13, .int gl, .ref v15])), (v10, .inl (g.2.1 1, 175, .inl K))] := hW
              refine lv_if_ne (tgt := 95) (pc := 75) hx hb dX0_callOn_75 rfl (fun c20 => ?_) (fun c20 => ?_)
              · refine lv_iinc (v := nI (j1 + 1)) (lv' := [(3, .int (nI (j1 + 1))), (4, .int (F_X10_nextOnCard cd cl j1 (tN (fyc_1 j1)))), (2, .int x2_1), (0, .ref y0), (1, .int (nI ho))]) (pc := 95) hx hb dX0_callOn_95 hl (k := 1) rfl (nI_add j1 1) (by decide) rfl (fun ls hl => ?_)
                refine lv_goto (tgt := 4) (pc := 98) hx hb dX0_callOn_98 rfl ?_
                have hW : WD g A s _ _ [(y0, .inr (0, [.ref v, .int kn, .int on, .ref yc, .ref yt, .ref yh, .ref yo])), (yc, .inl (g.2.1 1, 7, .inl fyc_1)), (v, .inr (10, [.int (nI pe), .int lc, .int de, .ref v3, .ref v4, .ref v5, .ref v6, .ref v7, .ref v8, .ref v9, .ref v10, .ref v11, .ref v12, .ref v13, .int gl, .ref v15])), (v10, .inl (g.2.1 1, 175, .inl K)), (v11, .inl (g.2.1 1, 42, .inl cd)), (v12, .inl (g.2.1 1, 7, .inl cl))] := hW.pick [0, 1, 4, 5, 2, 3] rfl rfl
                exact ih1 (j1 + 1) x2_1 fyc_1 (by omega) (by omega) (by first | exact hcn1 | exact ok6_up hcn1 (by omega)) (by rw [L1_X0_callOn, ← hst1]; exact (show L1_X0_callOns kn K cd cl ho j1 x2_1 fyc_1 = (x2_1, fyc_1) from by rw [L1_X0_callOns, if_neg c5, if_neg c11, if_neg c16, if_neg c20]).symm) _ _ _ hW (lv_sub hl [0, 2, 3, 4] rfl)
              · refine lv_iload_n (pc := 78) hx hb dX0_callOn_78 rfl (lv_at hl 2 rfl) ?_
                refine lv_iconst (v := 1) (pc := 79) hx hb dX0_callOn_79 (by decide) ?_
                refine lv_iload (pc := 80) hx hb dX0_callOn_80 (lv_at hl 0 rfl) ?_
                refine lv_ishl (pc := 82) hx hb dX0_callOn_82 ?_
                refine lv_ior (pc := 83) hx hb dX0_callOn_83 ?_
                refine lv_istore_n (lv' := [(2, .int (x2_1 ||| ((1 : Int32) <<< ((F_X10_nextOnCard cd cl j1 (tN (fyc_1 j1))) &&& 31)))), (4, .int (F_X10_nextOnCard cd cl j1 (tN (fyc_1 j1)))), (3, .int (nI j1)), (0, .ref y0), (1, .int (nI ho))]) (pc := 84) hx hb dX0_callOn_84 rfl hl (by decide) rfl (fun ls hl => ?_)
                refine lv_aload_n (pc := 85) hx hb dX0_callOn_85 rfl (lv_at hl 3 rfl) ?_
                refine r_get X hW 0 ciX0 3 rfl (by decide) m_233 rfl rfl dX0_callOn_86 ?_
                refine lv_iload_n (pc := 89) hx hb dX0_callOn_89 rfl (lv_at hl 2 rfl) ?_
                refine lv_dup2_11 (pc := 90) hx hb dX0_callOn_90 rfl rfl ?_
                refine r_iald X hW 1 rfl (vp_in_nI (by omega) (by decide)) dX0_callOn_91 ?_
                refine lv_topi (fun v23 ev23 => ?_)
                obtain rfl : v23 = fyc_1 j1 := ev23.trans (by rw [nI_clamp (by omega)])
                have hlt := nc_at (hcl j1 (by omega)).2 (by omega) q52
                have hl6 := (hcl j1 (by omega)).2
                rw [show fyc_1 j1 = nI (tN (fyc_1 j1)) from hg.1]
                refine lv_iconst (v := 1) (pc := 92) hx hb dX0_callOn_92 (by decide) ?_
                refine lv_iadd (pc := 93) hx hb dX0_callOn_93 ?_
                refine lv_topi (fun v24 ev24 => ?_)
                obtain rfl : v24 = nI (tN (fyc_1 j1) + 1) := ev24.trans (nI_add (tN (fyc_1 j1)) 1)
                refine r_iast (ws' := [(y0, .inr (0, [.ref v, .int kn, .int on, .ref yc, .ref yt, .ref yh, .ref yo])), (yc, .inl (g.2.1 1, 7, .inl (upd fyc_1 j1 (nI (tN (fyc_1 j1) + 1))))), (v11, .inl (g.2.1 1, 42, .inl cd)), (v12, .inl (g.2.1 1, 7, .inl cl)), (v, .inr (10, [.int (nI pe), .int lc, .int de, .ref v3, .ref v4, .ref v5, .ref v6, .ref v7, .ref v8, .ref v9, .ref v10, .ref v11, .ref v12, .ref v13, .int gl, .ref v15])), (v10, .inl (g.2.1 1, 175, .inl K))]) X hW 1 rfl (vp_in_nI (by omega) (by decide)) (f' := (upd fyc_1 j1 (nI (tN (fyc_1 j1) + 1)))) (by rw [nI_clamp (by omega)]) rfl dX0_callOn_94 (fun H locs hW => ?_)
                refine lv_iinc (v := nI (j1 + 1)) (lv' := [(3, .int (nI (j1 + 1))), (2, .int (x2_1 ||| ((1 : Int32) <<< ((F_X10_nextOnCard cd cl j1 (tN (fyc_1 j1))) &&& 31)))), (4, .int (F_X10_nextOnCard cd cl j1 (tN (fyc_1 j1)))), (0, .ref y0), (1, .int (nI ho))]) (pc := 95) hx hb dX0_callOn_95 hl (k := 2) rfl (nI_add j1 1) (by decide) rfl (fun ls hl => ?_)
                refine lv_goto (tgt := 4) (pc := 98) hx hb dX0_callOn_98 rfl ?_
                have hW : WD g A s _ _ [(y0, .inr (0, [.ref v, .int kn, .int on, .ref yc, .ref yt, .ref yh, .ref yo])), (yc, .inl (g.2.1 1, 7, .inl (upd fyc_1 j1 (nI (tN (fyc_1 j1) + 1))))), (v, .inr (10, [.int (nI pe), .int lc, .int de, .ref v3, .ref v4, .ref v5, .ref v6, .ref v7, .ref v8, .ref v9, .ref v10, .ref v11, .ref v12, .ref v13, .int gl, .ref v15])), (v10, .inl (g.2.1 1, 175, .inl K)), (v11, .inl (g.2.1 1, 42, .inl cd)), (v12, .inl (g.2.1 1, 7, .inl cl))] := hW.pick [0, 1, 4, 5, 2, 3] rfl rfl
                exact ih1 (j1 + 1) (x2_1 ||| ((1 : Int32) <<< ((F_X10_nextOnCard cd cl j1 (tN (fyc_1 j1))) &&& 31))) (upd fyc_1 j1 (nI (tN (fyc_1 j1) + 1))) (by omega) (by omega) (by first | exact hcn1 | exact ok6_up hcn1 (by omega)) (by rw [L1_X0_callOn, ← hst1]; exact (show L1_X0_callOns kn K cd cl ho j1 x2_1 fyc_1 = (x2_1 ||| ((1 : Int32) <<< ((F_X10_nextOnCard cd cl j1 (tN (fyc_1 j1))) &&& 31)), (upd fyc_1 j1 (nI (tN (fyc_1 j1) + 1)))) from by rw [L1_X0_callOns, if_neg c5, if_neg c11, if_neg c16, if_pos c20]).symm) _ _ _ hW (lv_sub hl [0, 1, 3, 4] rfl)
  exact loop1 (pe + 1) 0 (0 : Int32) cN (by omega) (by omega) hcN rfl _ _ _ hW (lv_sub hl [0, 1, 2, 3] rfl)

theorem co_ok {kn i0 : Int32} {K cd cl f : Nat → Int32} {ho : Nat} (hcl : OK6 cl) (h : OK6 f) : ∀ k : Nat, k ≤ 7 → OK6 (L1_X0_callOn kn K cd cl ho i0 f k).2
  | 0, _ => h
  | k + 1, hk => by
    have ih := co_ok (kn := kn) (i0 := i0) (K := K) (cd := cd) (ho := ho) hcl h k (by omega)
    show OK6 (L1_X0_callOns kn K cd cl ho k (L1_X0_callOn kn K cd cl ho i0 f k).1 (L1_X0_callOn kn K cd cl ho i0 f k).2).2
    generalize L1_X0_callOn kn K cd cl ho i0 f k = s at ih ⊢
    unfold L1_X0_callOns
    by_cases h1 : hasv kn (nI k) = 0
    · rw [if_pos h1]; exact ih
    · rw [if_neg h1]
      by_cases h2 : F_X10_nextOnCard cd cl k (tN (s.2 k)) = -1
      · rw [if_pos h2]; exact ih
      · rw [if_neg h2]
        have l6 := (hcl k (by omega)).2
        have lt := nc_at l6 (by have := (ih k (by omega)).2; omega) h2
        by_cases h3 : hasv (F_X10_callable K k ho) (F_X10_nextOnCard cd cl k (tN (s.2 k))) = 0
        · rw [if_pos h3]; exact ih
        · rw [if_neg h3]
          split
          · exact ok6_up ih (by omega)
          · exact ih
def L1_X0_hoursTillAllKnow (pe : Nat) (de : Int32) (K : Nat → Int32) (cd : Nat → Int32) (cl : Nat → Int32) : Nat → Nat → (Nat → Int32) → Int32 → Int32 → Int32 × (Nat → Int32) × Int32 × Int32
  | 0, _, _, _, _ => (0, fun _ => 0, 0, 0)
  | m_ + 1, j1, fyc_1, y1_1, y2_1 => if 24 < nI j1 then (((-1 : Int32), fyc_1, y1_1, y2_1)) else (if nI j1 ≤ 0 then (if y1_1 = evy (nI pe) then ((nI j1, fyc_1, y1_1, y2_1)) else (L1_X0_hoursTillAllKnow pe de K cd cl m_ (j1 + 1) fyc_1 y1_1 y2_1)) else (if (F_X0_callOn y1_1 y2_1 fyc_1 pe de K cd cl j1).2.1 = evy (nI pe) then ((nI j1, ((F_X0_callOn y1_1 y2_1 fyc_1 pe de K cd cl j1).1), (F_X0_callOn y1_1 y2_1 fyc_1 pe de K cd cl j1).2.1, (F_X0_callOn y1_1 y2_1 fyc_1 pe de K cd cl j1).2.2)) else (L1_X0_hoursTillAllKnow pe de K cd cl m_ (j1 + 1) ((F_X0_callOn y1_1 y2_1 fyc_1 pe de K cd cl j1).1) ((F_X0_callOn y1_1 y2_1 fyc_1 pe de K cd cl j1).2.1) ((F_X0_callOn y1_1 y2_1 fyc_1 pe de K cd cl j1).2.2))))
def F_X0_hoursTillAllKnow (pe : Nat) (de : Int32) (K : Nat → Int32) (cd : Nat → Int32) (cl : Nat → Int32) (fi : Int32) : Int32 × (Nat → Int32) × Int32 × Int32 := L1_X0_hoursTillAllKnow pe de K cd cl (25 + 1) 0 (fun _ => 0) ((1 : Int32) <<< (fi &&& 31)) (0 : Int32)
set_option maxHeartbeats 4000000 in
set_option maxRecDepth 100000 in
theorem K_X0_hoursTillAllKnow (l : Launch) (g : GG) (gv : Value) (y0 : Nat) (yc : Nat) (yt : Nat) (yh : Nat) (yo : Nat) (kn : Int32) (on : Int32) (cN : Nat → Int32) (v : Nat) (v3 : Nat) (v4 : Nat) (v5 : Nat) (v6 : Nat) (v7 : Nat) (v8 : Nat) (v9 : Nat) (v10 : Nat) (v11 : Nat) (v12 : Nat) (v13 : Nat) (v15 : Nat) (pe : Nat) (lc : Int32) (de : Int32) (gl : Int32) (K : Nat → Int32) (cd : Nat → Int32) (cl : Nat → Int32) (fi : Int32) (hcl : OK6 cl) (hpe : pe ≤ 7) : MetI l g yX0_hoursTillAllKnow cX0_hoursTillAllKnow 4 (some .int) 2 0 0 [.ref y0, .ref v, .int fi] [(y0, .inr (0, [gv, .int kn, .int on, .ref yc, .ref yt, .ref yh, .ref yo])), (yc, .inl (g.2.1 1, 7, .inl cN)), (v, .inr (10, [.int (nI pe), .int lc, .int de, .ref v3, .ref v4, .ref v5, .ref v6, .ref v7, .ref v8, .ref v9, .ref v10, .ref v11, .ref v12, .ref v13, .int gl, .ref v15])), (v10, .inl (g.2.1 1, 175, .inl K)), (v11, .inl (g.2.1 1, 42, .inl cd)), (v12, .inl (g.2.1 1, 7, .inl cl))] (fun r u => r = (F_X0_hoursTillAllKnow pe de K cd cl fi).1 ∧ u = [(y0, .inr (0, [.ref v, .int ((F_X0_hoursTillAllKnow pe de K cd cl fi).2.2.1), .int ((F_X0_hoursTillAllKnow pe de K cd cl fi).2.2.2), .ref yc, .ref yt, .ref yh, .ref yo])), (yc, .inl (g.2.1 1, 7, .inl ((F_X0_hoursTillAllKnow pe de K cd cl fi).2.1))), (v, .inr (10, [.int (nI pe), .int lc, .int de, .ref v3, .ref v4, .ref v5, .ref v6, .ref v7, .ref v8, .ref v9, .ref v10, .ref v11, .ref v12, .ref v13, .int gl, .ref v15])), (v10, .inl (g.2.1 1, 175, .inl K)), (v11, .inl (g.2.1 1, 42, .inl cd)), (v12, .inl (g.2.1 1, 7, .inl cl))]) := by
  refine MetI.of (own := RX0) rfl (by decide) (Nat.le_of_ble_eq_true rfl) ?_
  intro p e s m below meth c A ls args Q hQ X hr hin hW hl
  have hx := X.1
  have hb := X.2.1
  have hl : lv_has ls 4 [(0, .ref y0), (1, .ref v), (2, .int fi)] := hl
  refine lv_aload_n (pc := 0) hx hb dX0_hoursTillAllKnow_0 rfl (lv_at hl 0 rfl) ?_
  refine lv_aload_n (pc := 1) hx hb dX0_hoursTillAllKnow_1 rfl (lv_at hl 1 rfl) ?_
  refine r_put (ws' := [(y0, .inr (0, [.ref v, .int kn, .int on, .ref yc, .ref yt, .ref yh, .ref yo])), (yc, .inl (g.2.1 1, 7, .inl cN)), (v, .inr (10, [.int (nI pe), .int lc, .int de, .ref v3, .ref v4, .ref v5, .ref v6, .ref v7, .ref v8, .ref v9, .ref v10, .ref v11, .ref v12, .ref v13, .int gl, .ref v15])), (v10, .inl (g.2.1 1, 175, .inl K)), (v11, .inl (g.2.1 1, 42, .inl cd)), (v12, .inl (g.2.1 1, 7, .inl cl))]) X hW 0 ciX0 0 rfl (by decide) m_230 rfl rfl rfl rfl (Nat.le_of_ble_eq_true rfl) rfl dX0_hoursTillAllKnow_2 (fun H locs hW => ?_)
  refine lv_aload_n (pc := 5) hx hb dX0_hoursTillAllKnow_5 rfl (lv_at hl 0 rfl) ?_
  refine lv_iconst (v := 1) (pc := 6) hx hb dX0_hoursTillAllKnow_6 (by decide) ?_
  refine lv_iload_n (pc := 7) hx hb dX0_hoursTillAllKnow_7 rfl (lv_at hl 2 rfl) ?_
  refine lv_ishl (pc := 8) hx hb dX0_hoursTillAllKnow_8 ?_
  refine r_put (ws' := [(y0, .inr (0, [.ref v, .int ((1 : Int32) <<< (fi &&& 31)), .int on, .ref yc, .ref yt, .ref yh, .ref yo])), (yc, .inl (g.2.1 1, 7, .inl cN)), (v, .inr (10, [.int (nI pe), .int lc, .int de, .ref v3, .ref v4, .ref v5, .ref v6, .ref v7, .ref v8, .ref v9, .ref v10, .ref v11, .ref v12, .ref v13, .int gl, .ref v15])), (v10, .inl (g.2.1 1, 175, .inl K)), (v11, .inl (g.2.1 1, 42, .inl cd)), (v12, .inl (g.2.1 1, 7, .inl cl))]) X hW 0 ciX0 1 rfl (by decide) m_231 rfl rfl rfl rfl (Nat.le_of_ble_eq_true rfl) rfl dX0_hoursTillAllKnow_9 (fun H locs hW => ?_)
  refine lv_aload_n (pc := 12) hx hb dX0_hoursTillAllKnow_12 rfl (lv_at hl 0 rfl) ?_
  refine lv_iconst (v := 0) (pc := 13) hx hb dX0_hoursTillAllKnow_13 (by decide) ?_
  refine r_put (ws' := [(y0, .inr (0, [.ref v, .int ((1 : Int32) <<< (fi &&& 31)), .int 0, .ref yc, .ref yt, .ref yh, .ref yo])), (yc, .inl (g.2.1 1, 7, .inl cN)), (v, .inr (10, [.int (nI pe), .int lc, .int de, .ref v3, .ref v4, .ref v5, .ref v6, .ref v7, .ref v8, .ref v9, .ref v10, .ref v11, .ref v12, .ref v13, .int gl, .ref v15])), (v10, .inl (g.2.1 1, 175, .inl K)), (v11, .inl (g.2.1 1, 42, .inl cd)), (v12, .inl (g.2.1 1, 7, .inl cl))]) X hW 0 ciX0 2 rfl (by decide) m_232 rfl rfl rfl rfl (Nat.le_of_ble_eq_true rfl) rfl dX0_hoursTillAllKnow_14 (fun H locs hW => ?_)
  refine lv_aload_n (pc := 17) hx hb dX0_hoursTillAllKnow_17 rfl (lv_at hl 0 rfl) ?_
  refine r_get X hW 0 ciX0 3 rfl (by decide) m_233 rfl rfl dX0_hoursTillAllKnow_18 ?_
  refine lv_iconst (v := 0) (pc := 21) hx hb dX0_hoursTillAllKnow_21 (by decide) ?_
  refine c_Sv (pc := 22) (As := [.ref yc, .int 0]) (rest := []) (wr := [(y0, .inr (0, [.ref v, .int ((1 : Int32) <<< (fi &&& 31)), .int 0, .ref yc, .ref yt, .ref yh, .ref yo])), (v, .inr (10, [.int (nI pe), .int lc, .int de, .ref v3, .ref v4, .ref v5, .ref v6, .ref v7, .ref v8, .ref v9, .ref v10, .ref v11, .ref v12, .ref v13, .int gl, .ref v15])), (v10, .inl (g.2.1 1, 175, .inl K)), (v11, .inl (g.2.1 1, 42, .inl cd)), (v12, .inl (g.2.1 1, 7, .inl cl))]) X hW (C_J7_fillE l g yc 7 cN 0 (by decide)) vX0_35 [1] [0, 2, 3, 4, 5] rfl rfl rfl rfl rfl rfl hl.1 rfl (Nat.le_of_ble_eq_true rfl) ⟨Nat.le_of_ble_eq_true rfl, Nat.le_of_ble_eq_true rfl⟩ ⟨Nat.le_of_ble_eq_true rfl, Nat.le_of_ble_eq_true rfl⟩ dX0_hoursTillAllKnow_22 (fun u9 H locs hq hW => ?_)
  obtain rfl := hq
  have hW : WD g A s _ _ [(y0, .inr (0, [.ref v, .int ((1 : Int32) <<< (fi &&& 31)), .int 0, .ref yc, .ref yt, .ref yh, .ref yo])), (v, .inr (10, [.int (nI pe), .int lc, .int de, .ref v3, .ref v4, .ref v5, .ref v6, .ref v7, .ref v8, .ref v9, .ref v10, .ref v11, .ref v12, .ref v13, .int gl, .ref v15])), (v10, .inl (g.2.1 1, 175, .inl K)), (v11, .inl (g.2.1 1, 42, .inl cd)), (v12, .inl (g.2.1 1, 7, .inl cl)), (yc, .inl (g.2.1 1, 7, .inl (fun _ => 0)))] := hW
  refine lv_iconst (v := 0) (pc := 25) hx hb dX0_hoursTillAllKnow_25 (by decide) ?_
  refine lv_istore_n (lv' := [(3, .int 0), (0, .ref y0), (1, .ref v), (2, .int fi)]) (pc := 26) hx hb dX0_hoursTillAllKnow_26 rfl hl (by decide) rfl (fun ls hl => ?_)
  have loop1 : ∀ (fu1 : Nat) (j1 : Nat) (fyc_1 : Nat → Int32) (y1_1 : Int32) (y2_1 : Int32), (25 < fu1 + j1) → (j1 ≤ 25) → (OK6 fyc_1) → (L1_X0_hoursTillAllKnow pe de K cd cl fu1 j1 fyc_1 y1_1 y2_1 = F_X0_hoursTillAllKnow pe de K cd cl fi) → ∀ (H : Heap) (locs : List Loc) (ls : Array Slot), WD g A s H locs [(y0, .inr (0, [.ref v, .int y1_1, .int y2_1, .ref yc, .ref yt, .ref yh, .ref yo])), (v, .inr (10, [.int (nI pe), .int lc, .int de, .ref v3, .ref v4, .ref v5, .ref v6, .ref v7, .ref v8, .ref v9, .ref v10, .ref v11, .ref v12, .ref v13, .int gl, .ref v15])), (v10, .inl (g.2.1 1, 175, .inl K)), (v11, .inl (g.2.1 1, 42, .inl cd)), (v12, .inl (g.2.1 1, 7, .inl cl)), (yc, .inl (g.2.1 1, 7, .inl fyc_1))] → lv_has ls 4 [(3, .int (nI j1)), (0, .ref y0), (1, .ref v), (2, .int fi)] → W p l e (RM 2 0 0) s m args below meth c H locs 0 0 Q (F0 m 27 ls []) := by
    intro fu1
    induction fu1 with
    | zero =>
      intro j1 fyc_1 y1_1 y2_1 hm1 hj1 hcn1 hst1
      exact absurd hm1 (by omega)
    | succ fu1 ih1 =>
      intro j1 fyc_1 y1_1 y2_1 hm1 hj1 hcn1 hst1 H locs ls hW hl
      refine lv_iload_n (pc := 27) hx hb dX0_hoursTillAllKnow_27 rfl (lv_at hl 0 rfl) ?_
      refine lv_bipush (v := 24) (pc := 28) hx hb dX0_hoursTillAllKnow_28 (by decide) ?_
      refine lv_icmp_gt (tgt := 61) (pc := 30) hx hb dX0_hoursTillAllKnow_30 rfl (fun c1 => ?_) (fun c1 => ?_)
      · have h2 : 24 < j1 := (nI_ltI (a := 24) (b := j1) (by omega) (by omega)).mp c1
        refine lv_iconst (v := (-1)) (pc := 61) hx hb dX0_hoursTillAllKnow_61 (by decide) ?_
        have hF : F_X0_hoursTillAllKnow pe de K cd cl fi = ((-1 : Int32), fyc_1, y1_1, y2_1) := hst1.symm.trans (show L1_X0_hoursTillAllKnow pe de K cd cl (fu1 + 1) j1 fyc_1 y1_1 y2_1 = ((-1 : Int32), fyc_1, y1_1, y2_1) from by rw [L1_X0_hoursTillAllKnow, if_pos c1])
        exact e_i (u := [(y0, .inr (0, [.ref v, .int y1_1, .int y2_1, .ref yc, .ref yt, .ref yh, .ref yo])), (yc, .inl (g.2.1 1, 7, .inl fyc_1)), (v, .inr (10, [.int (nI pe), .int lc, .int de, .ref v3, .ref v4, .ref v5, .ref v6, .ref v7, .ref v8, .ref v9, .ref v10, .ref v11, .ref v12, .ref v13, .int gl, .ref v15])), (v10, .inl (g.2.1 1, 175, .inl K)), (v11, .inl (g.2.1 1, 42, .inl cd)), (v12, .inl (g.2.1 1, 7, .inl cl))]) X hQ hr (hW) [0, 5, 1, 2, 3, 4] rfl rfl (⟨(congrArg Prod.fst hF).symm, by rw [hF]⟩) ⟨Nat.le_of_ble_eq_true rfl, Nat.le_of_ble_eq_true rfl⟩ dX0_hoursTillAllKnow_62
      · have h3 : ¬ (24 < j1) := fun q => c1 ((nI_ltI (a := 24) (b := j1) (by omega) (by omega)).mpr q)
        refine lv_iload_n (pc := 33) hx hb dX0_hoursTillAllKnow_33 rfl (lv_at hl 0 rfl) ?_
        refine lv_if_le (tgt := 42) (pc := 34) hx hb dX0_hoursTillAllKnow_34 rfl (fun c4 => ?_) (fun c4 => ?_)
        · have h5 : j1 ≤ 0 := (nI_leI (a := j1) (b := 0) (by omega) (by omega)).mp c4
          refine lv_aload_n (pc := 42) hx hb dX0_hoursTillAllKnow_42 rfl (lv_at hl 1 rfl) ?_
          refine r_get X hW 0 ciX0 1 rfl (by decide) m_231 rfl rfl dX0_hoursTillAllKnow_43 ?_
          refine lv_aload_n (pc := 46) hx hb dX0_hoursTillAllKnow_46 rfl (lv_at hl 2 rfl) ?_
          refine c_Vi (pc := 47) (As := []) (rest := [.int y1_1]) (wr := [(y0, .inr (0, [.ref v, .int y1_1, .int y2_1, .ref yc, .ref yt, .ref yh, .ref yo])), (v10, .inl (g.2.1 1, 175, .inl K)), (v11, .inl (g.2.1 1, 42, .inl cd)), (v12, .inl (g.2.1 1, 7, .inl cl)), (yc, .inl (g.2.1 1, 7, .inl fyc_1))]) X hW 1 ciX10 rfl (C_X10_everyoneG l g v v3 v4 v5 v6 v7 v8 v9 v10 v11 v12 v13 v15 (nI pe) lc de gl) vX0_45 [1] [0, 2, 3, 4, 5] rfl rfl rfl rfl rfl rfl hl.1 rfl (Nat.le_of_ble_eq_true rfl) ⟨Nat.le_of_ble_eq_true rfl, Nat.le_of_ble_eq_true rfl⟩ ⟨Nat.le_of_ble_eq_true rfl, Nat.le_of_ble_eq_true rfl⟩ dX0_hoursTillAllKnow_47 (fun r6 u9 H locs hq hW => ?_)
          obtain ⟨rfl, rfl⟩ := hq
          have hW : WD g A s _ _ [(y0, .inr (0, [.ref v, .int y1_1, .int y2_1, .ref yc, .ref yt, .ref yh, .ref yo])), (v10, .inl (g.2.1 1, 175, .inl K)), (v11, .inl (g.2.1 1, 42, .inl cd)), (v12, .inl (g.2.1 1, 7, .inl cl)), (yc, .inl (g.2.1 1, 7, .inl fyc_1)), (v, .inr (10, [.int (nI pe), .int lc, .int de, .ref v3, .ref v4, .ref v5, .ref v6, .ref v7, .ref v8, .ref v9, .ref v10, .ref v11, .ref v12, .ref v13, .int gl, .ref v15]))] := hW
          refine lv_icmp_ne (tgt := 55) (pc := 50) hx hb dX0_hoursTillAllKnow_50 rfl (fun c7 => ?_) (fun c7 => ?_)
          · refine lv_iinc (v := nI (j1 + 1)) (lv' := [(3, .int (nI (j1 + 1))), (0, .ref y0), (1, .ref v), (2, .int fi)]) (pc := 55) hx hb dX0_hoursTillAllKnow_55 hl (k := 0) rfl (nI_add j1 1) (by decide) rfl (fun ls hl => ?_)
            refine lv_goto (tgt := 27) (pc := 58) hx hb dX0_hoursTillAllKnow_58 rfl ?_
            have hW : WD g A s _ _ [(y0, .inr (0, [.ref v, .int y1_1, .int y2_1, .ref yc, .ref yt, .ref yh, .ref yo])), (v, .inr (10, [.int (nI pe), .int lc, .int de, .ref v3, .ref v4, .ref v5, .ref v6, .ref v7, .ref v8, .ref v9, .ref v10, .ref v11, .ref v12, .ref v13, .int gl, .ref v15])), (v10, .inl (g.2.1 1, 175, .inl K)), (v11, .inl (g.2.1 1, 42, .inl cd)), (v12, .inl (g.2.1 1, 7, .inl cl)), (yc, .inl (g.2.1 1, 7, .inl fyc_1))] := hW.pick [0, 5, 1, 2, 3, 4] rfl rfl
            exact ih1 (j1 + 1) fyc_1 y1_1 y2_1 (by omega) (by omega) (by first | exact hcn1 | exact co_ok hcl hcn1 _ hpe) ((show L1_X0_hoursTillAllKnow pe de K cd cl (fu1 + 1) j1 fyc_1 y1_1 y2_1 = L1_X0_hoursTillAllKnow pe de K cd cl fu1 (j1 + 1) fyc_1 y1_1 y2_1 from by rw [L1_X0_hoursTillAllKnow, if_neg c1, if_pos c4, if_neg c7]).symm.trans hst1) _ _ _ hW (lv_sub hl [0, 1, 2, 3] rfl)
          · refine lv_iload_n (pc := 53) hx hb dX0_hoursTillAllKnow_53 rfl (lv_at hl 0 rfl) ?_
            have hF : F_X0_hoursTillAllKnow pe de K cd cl fi = (nI j1, fyc_1, y1_1, y2_1) := hst1.symm.trans (show L1_X0_hoursTillAllKnow pe de K cd cl (fu1 + 1) j1 fyc_1 y1_1 y2_1 = (nI j1, fyc_1, y1_1, y2_1) from by rw [L1_X0_hoursTillAllKnow, if_neg c1, if_pos c4, if_pos c7])
            exact e_i (u := [(y0, .inr (0, [.ref v, .int y1_1, .int y2_1, .ref yc, .ref yt, .ref yh, .ref yo])), (yc, .inl (g.2.1 1, 7, .inl fyc_1)), (v, .inr (10, [.int (nI pe), .int lc, .int de, .ref v3, .ref v4, .ref v5, .ref v6, .ref v7, .ref v8, .ref v9, .ref v10, .ref v11, .ref v12, .ref v13, .int gl, .ref v15])), (v10, .inl (g.2.1 1, 175, .inl K)), (v11, .inl (g.2.1 1, 42, .inl cd)), (v12, .inl (g.2.1 1, 7, .inl cl))]) X hQ hr (hW) [0, 4, 5, 1, 2, 3] rfl rfl (⟨(congrArg Prod.fst hF).symm, by rw [hF]⟩) ⟨Nat.le_of_ble_eq_true rfl, Nat.le_of_ble_eq_true rfl⟩ dX0_hoursTillAllKnow_54
        · have h10 : ¬ (j1 ≤ 0) := fun q => c4 ((nI_leI (a := j1) (b := 0) (by omega) (by omega)).mpr q)
          refine lv_aload_n (pc := 37) hx hb dX0_hoursTillAllKnow_37 rfl (lv_at hl 1 rfl) ?_
          refine lv_iload_n (pc := 38) hx hb dX0_hoursTillAllKnow_38 rfl (lv_at hl 0 rfl) ?_
          refine c_Vv (pc := 39) (As := [.int (nI j1)]) (rest := []) (wr := []) X hW 0 ciX0 rfl (K_X0_callOn l g y0 yc yt yh yo y1_1 y2_1 fyc_1 v v3 v4 v5 v6 v7 v8 v9 v10 v11 v12 v13 v15 pe lc de gl K cd cl j1 hcl hcn1 (by omega) (by omega)) vX0_41 [0, 5, 1, 2, 3, 4] [] rfl rfl rfl rfl rfl rfl hl.1 rfl (Nat.le_of_ble_eq_true rfl) ⟨Nat.le_of_ble_eq_true rfl, Nat.le_of_ble_eq_true rfl⟩ ⟨Nat.le_of_ble_eq_true rfl, Nat.le_of_ble_eq_true rfl⟩ dX0_hoursTillAllKnow_39 (fun u9 H locs hq hW => ?_)
          obtain rfl := hq
          have hW : WD g A s _ _ [(y0, .inr (0, [.ref v, .int ((F_X0_callOn y1_1 y2_1 fyc_1 pe de K cd cl j1).2.1), .int ((F_X0_callOn y1_1 y2_1 fyc_1 pe de K cd cl j1).2.2), .ref yc, .ref yt, .ref yh, .ref yo])), (yc, .inl (g.2.1 1, 7, .inl ((F_X0_callOn y1_1 y2_1 fyc_1 pe de K cd cl j1).1))), (v, .inr (10, [.int (nI pe), .int lc, .int de, .ref v3, .ref v4, .ref v5, .ref v6, .ref v7, .ref v8, .ref v9, .ref v10, .ref v11, .ref v12, .ref v13, .int gl, .ref v15])), (v10, .inl (g.2.1 1, 175, .inl K)), (v11, .inl (g.2.1 1, 42, .inl cd)), (v12, .inl (g.2.1 1, 7, .inl cl))] := hW
          refine lv_aload_n (pc := 42) hx hb dX0_hoursTillAllKnow_42 rfl (lv_at hl 1 rfl) ?_
          refine r_get X hW 0 ciX0 1 rfl (by decide) m_231 rfl rfl dX0_hoursTillAllKnow_43 ?_
          refine lv_aload_n (pc := 46) hx hb dX0_hoursTillAllKnow_46 rfl (lv_at hl 2 rfl) ?_
          refine c_Vi (pc := 47) (As := []) (rest := [.int ((F_X0_callOn y1_1 y2_1 fyc_1 pe de K cd cl j1).2.1)]) (wr := [(y0, .inr (0, [.ref v, .int ((F_X0_callOn y1_1 y2_1 fyc_1 pe de K cd cl j1).2.1), .int ((F_X0_callOn y1_1 y2_1 fyc_1 pe de K cd cl j1).2.2), .ref yc, .ref yt, .ref yh, .ref yo])), (yc, .inl (g.2.1 1, 7, .inl ((F_X0_callOn y1_1 y2_1 fyc_1 pe de K cd cl j1).1))), (v10, .inl (g.2.1 1, 175, .inl K)), (v11, .inl (g.2.1 1, 42, .inl cd)), (v12, .inl (g.2.1 1, 7, .inl cl))]) X hW 2 ciX10 rfl (C_X10_everyoneG l g v v3 v4 v5 v6 v7 v8 v9 v10 v11 v12 v13 v15 (nI pe) lc de gl) vX0_45 [2] [0, 1, 3, 4, 5] rfl rfl rfl rfl rfl rfl hl.1 rfl (Nat.le_of_ble_eq_true rfl) ⟨Nat.le_of_ble_eq_true rfl, Nat.le_of_ble_eq_true rfl⟩ ⟨Nat.le_of_ble_eq_true rfl, Nat.le_of_ble_eq_true rfl⟩ dX0_hoursTillAllKnow_47 (fun r11 u9 H locs hq hW => ?_)
          obtain ⟨rfl, rfl⟩ := hq
          have hW : WD g A s _ _ [(y0, .inr (0, [.ref v, .int ((F_X0_callOn y1_1 y2_1 fyc_1 pe de K cd cl j1).2.1), .int ((F_X0_callOn y1_1 y2_1 fyc_1 pe de K cd cl j1).2.2), .ref yc, .ref yt, .ref yh, .ref yo])), (yc, .inl (g.2.1 1, 7, .inl ((F_X0_callOn y1_1 y2_1 fyc_1 pe de K cd cl j1).1))), (v10, .inl (g.2.1 1, 175, .inl K)), (v11, .inl (g.2.1 1, 42, .inl cd)), (v12, .inl (g.2.1 1, 7, .inl cl)), (v, .inr (10, [.int (nI pe), .int lc, .int de, .ref v3, .ref v4, .ref v5, .ref v6, .ref v7, .ref v8, .ref v9, .ref v10, .ref v11, .ref v12, .ref v13, .int gl, .ref v15]))] := hW
          refine lv_icmp_ne (tgt := 55) (pc := 50) hx hb dX0_hoursTillAllKnow_50 rfl (fun c12 => ?_) (fun c12 => ?_)
          · refine lv_iinc (v := nI (j1 + 1)) (lv' := [(3, .int (nI (j1 + 1))), (0, .ref y0), (1, .ref v), (2, .int fi)]) (pc := 55) hx hb dX0_hoursTillAllKnow_55 hl (k := 0) rfl (nI_add j1 1) (by decide) rfl (fun ls hl => ?_)
            refine lv_goto (tgt := 27) (pc := 58) hx hb dX0_hoursTillAllKnow_58 rfl ?_
            have hW : WD g A s _ _ [(y0, .inr (0, [.ref v, .int ((F_X0_callOn y1_1 y2_1 fyc_1 pe de K cd cl j1).2.1), .int ((F_X0_callOn y1_1 y2_1 fyc_1 pe de K cd cl j1).2.2), .ref yc, .ref yt, .ref yh, .ref yo])), (v, .inr (10, [.int (nI pe), .int lc, .int de, .ref v3, .ref v4, .ref v5, .ref v6, .ref v7, .ref v8, .ref v9, .ref v10, .ref v11, .ref v12, .ref v13, .int gl, .ref v15])), (v10, .inl (g.2.1 1, 175, .inl K)), (v11, .inl (g.2.1 1, 42, .inl cd)), (v12, .inl (g.2.1 1, 7, .inl cl)), (yc, .inl (g.2.1 1, 7, .inl ((F_X0_callOn y1_1 y2_1 fyc_1 pe de K cd cl j1).1)))] := hW.pick [0, 5, 2, 3, 4, 1] rfl rfl
            exact ih1 (j1 + 1) ((F_X0_callOn y1_1 y2_1 fyc_1 pe de K cd cl j1).1) ((F_X0_callOn y1_1 y2_1 fyc_1 pe de K cd cl j1).2.1) ((F_X0_callOn y1_1 y2_1 fyc_1 pe de K cd cl j1).2.2) (by omega) (by omega) (by first | exact hcn1 | exact co_ok hcl hcn1 _ hpe) ((show L1_X0_hoursTillAllKnow pe de K cd cl (fu1 + 1) j1 fyc_1 y1_1 y2_1 = L1_X0_hoursTillAllKnow pe de K cd cl fu1 (j1 + 1) ((F_X0_callOn y1_1 y2_1 fyc_1 pe de K cd cl j1).1) ((F_X0_callOn y1_1 y2_1 fyc_1 pe de K cd cl j1).2.1) ((F_X0_callOn y1_1 y2_1 fyc_1 pe de K cd cl j1).2.2) from by rw [L1_X0_hoursTillAllKnow, if_neg c1, if_neg c4, if_neg c12]).symm.trans hst1) _ _ _ hW (lv_sub hl [0, 1, 2, 3] rfl)
          · refine lv_iload_n (pc := 53) hx hb dX0_hoursTillAllKnow_53 rfl (lv_at hl 0 rfl) ?_
            have hF : F_X0_hoursTillAllKnow pe de K cd cl fi = (nI j1, ((F_X0_callOn y1_1 y2_1 fyc_1 pe de K cd cl j1).1), (F_X0_callOn y1_1 y2_1 fyc_1 pe de K cd cl j1).2.1, (F_X0_callOn y1_1 y2_1 fyc_1 pe de K cd cl j1).2.2) := hst1.symm.trans (show L1_X0_hoursTillAllKnow pe de K cd cl (fu1 + 1) j1 fyc_1 y1_1 y2_1 = (nI j1, ((F_X0_callOn y1_1 y2_1 fyc_1 pe de K cd cl j1).1), (F_X0_callOn y1_1 y2_1 fyc_1 pe de K cd cl j1).2.1, (F_X0_callOn y1_1 y2_1 fyc_1 pe de K cd cl j1).2.2) from by rw [L1_X0_hoursTillAllKnow, if_neg c1, if_neg c4, if_pos c12])
            exact e_i (u := [(y0, .inr (0, [.ref v, .int ((F_X0_callOn y1_1 y2_1 fyc_1 pe de K cd cl j1).2.1), .int ((F_X0_callOn y1_1 y2_1 fyc_1 pe de K cd cl j1).2.2), .ref yc, .ref yt, .ref yh, .ref yo])), (yc, .inl (g.2.1 1, 7, .inl ((F_X0_callOn y1_1 y2_1 fyc_1 pe de K cd cl j1).1))), (v, .inr (10, [.int (nI pe), .int lc, .int de, .ref v3, .ref v4, .ref v5, .ref v6, .ref v7, .ref v8, .ref v9, .ref v10, .ref v11, .ref v12, .ref v13, .int gl, .ref v15])), (v10, .inl (g.2.1 1, 175, .inl K)), (v11, .inl (g.2.1 1, 42, .inl cd)), (v12, .inl (g.2.1 1, 7, .inl cl))]) X hQ hr (hW) [0, 1, 5, 2, 3, 4] rfl rfl (⟨(congrArg Prod.fst hF).symm, by rw [hF]⟩) ⟨Nat.le_of_ble_eq_true rfl, Nat.le_of_ble_eq_true rfl⟩ dX0_hoursTillAllKnow_54
  exact loop1 (25 + 1) 0 (fun _ => 0) ((1 : Int32) <<< (fi &&& 31)) (0 : Int32) (by omega) (by omega) ok6_0 (show F_X0_hoursTillAllKnow pe de K cd cl fi = L1_X0_hoursTillAllKnow pe de K cd cl (25 + 1) 0 (fun _ => 0) ((1 : Int32) <<< (fi &&& 31)) (0 : Int32) from rfl).symm _ _ _ hW (lv_sub hl [0, 1, 2, 3] rfl)

def F_X11_kept0  : Int32 := (-1 : Int32)
set_option maxHeartbeats 4000000 in
set_option maxRecDepth 100000 in
theorem K_X11_kept0 (l : Launch) (g : GG) (h0 : Nat) (a0 : Nat) (a1 : Nat) (a2 : Nat) (a3 : Nat) (a4 : Nat) (a5 : Nat) (a6 : Nat) (a7 : Nat) (a8 : Nat) (a9 : Nat) (a10 : Nat) (nv : Nat) (np : Nat) (cc : Int32) (fA : Nat → Option Nat) (x : Int32) (y : Int32) (hbad : x < 0 ∨ nI nv ≤ x) : MetI l g yX11_kept cX11_kept 4 (some .int) 1 0 0 [.ref h0, .int x, .int y] [(h0, .inr (11, [.ref a0, .ref a1, .ref a2, .ref a3, .ref a4, .ref a5, .ref a6, .ref a7, .ref a8, .ref a9, .ref a10, .int (nI nv), .int (nI np), .int cc])), (a1, .inl (g.2.1 4, 10, .inr (.inr (.inr (.inr fA)))))] (fun r u => r = F_X11_kept0 ∧ u = [(h0, .inr (11, [.ref a0, .ref a1, .ref a2, .ref a3, .ref a4, .ref a5, .ref a6, .ref a7, .ref a8, .ref a9, .ref a10, .int (nI nv), .int (nI np), .int cc])), (a1, .inl (g.2.1 4, 10, .inr (.inr (.inr (.inr fA)))))]) := by
  refine MetI.of (own := RX11) rfl (by decide) (Nat.le_of_ble_eq_true rfl) ?_
  intro p e s m below meth c A ls args Q hQ X hr hin hW hl
  have hx := X.1
  have hb := X.2.1
  have hl : lv_has ls 4 [(0, .ref h0), (1, .int x), (2, .int y)] := hl
  refine lv_aload_n (pc := 0) hx hb dX11_kept_0 rfl (lv_at hl 0 rfl) ?_
  refine lv_iload_n (pc := 1) hx hb dX11_kept_1 rfl (lv_at hl 1 rfl) ?_
  refine c_Vq (pc := 2) (As := [.int x]) (rest := []) (wr := []) X hW 0 ciX11 rfl (C_X11_valleyAt0 l g h0 a0 a1 a2 a3 a4 a5 a6 a7 a8 a9 a10 nv np cc fA x hbad) vX11_101 [0, 1] [] rfl rfl rfl rfl rfl rfl hl.1 rfl (Nat.le_of_ble_eq_true rfl) ⟨Nat.le_of_ble_eq_true rfl, Nat.le_of_ble_eq_true rfl⟩ ⟨Nat.le_of_ble_eq_true rfl, Nat.le_of_ble_eq_true rfl⟩ dX11_kept_2 (fun r1 u9 H locs hq hW => ?_)
  obtain ⟨rfl, rfl⟩ := hq
  have hW : WD g A s _ _ [(h0, .inr (11, [.ref a0, .ref a1, .ref a2, .ref a3, .ref a4, .ref a5, .ref a6, .ref a7, .ref a8, .ref a9, .ref a10, .int (nI nv), .int (nI np), .int cc])), (a1, .inl (g.2.1 4, 10, .inr (.inr (.inr (.inr fA)))))] := hW
  refine lv_astore_nN (lv' := [(3, .null), (0, .ref h0), (1, .int x), (2, .int y)]) (pc := 5) hx hb dX11_kept_5 rfl hl (by decide) rfl (fun ls hl => ?_)
  refine lv_aload_nN (pc := 6) hx hb dX11_kept_6 rfl (lv_at hl 0 rfl) ?_
  refine lv_ifnullN (tgt := 18) (pc := 7) hx hb dX11_kept_7 rfl ?_
  refine lv_iconst (v := (-1)) (pc := 18) hx hb dX11_kept_18 (by decide) ?_
  have hF : F_X11_kept0 = (-1 : Int32) := show F_X11_kept0 = (-1 : Int32) from rfl
  exact e_i (u := [(h0, .inr (11, [.ref a0, .ref a1, .ref a2, .ref a3, .ref a4, .ref a5, .ref a6, .ref a7, .ref a8, .ref a9, .ref a10, .int (nI nv), .int (nI np), .int cc])), (a1, .inl (g.2.1 4, 10, .inr (.inr (.inr (.inr fA)))))]) X hQ hr (hW) [0, 1] rfl rfl (⟨hF.symm, rfl⟩) ⟨Nat.le_of_ble_eq_true rfl, Nat.le_of_ble_eq_true rfl⟩ dX11_kept_19

def F_X11_kept1 (gv : Value) (kn : Int32) (on : Int32) (cN : Nat → Int32) (v : Nat) (pe : Nat) (de : Int32) (K : Nat → Int32) (cd : Nat → Int32) (cl : Nat → Int32) (y : Int32) : Int32 × (Nat → Int32) × Int32 × Int32 × Value := if F_X10_hasPerson (nI pe) y = 0 then (((-1 : Int32), cN, kn, on, gv)) else (((F_X0_hoursTillAllKnow pe de K cd cl y).1, ((F_X0_hoursTillAllKnow pe de K cd cl y).2.1), (F_X0_hoursTillAllKnow pe de K cd cl y).2.2.1, (F_X0_hoursTillAllKnow pe de K cd cl y).2.2.2, (.ref v)))
set_option maxHeartbeats 4000000 in
set_option maxRecDepth 100000 in
theorem K_X11_kept1 (l : Launch) (g : GG) (h0 : Nat) (a0 : Nat) (a1 : Nat) (a2 : Nat) (a3 : Nat) (a4 : Nat) (a5 : Nat) (a6 : Nat) (a7 : Nat) (a8 : Nat) (a9 : Nat) (a10 : Nat) (nv : Nat) (np : Nat) (cc : Int32) (fA : Nat → Option Nat) (i : Nat) (gv : Value) (yc : Nat) (yt : Nat) (yh : Nat) (yo : Nat) (kn : Int32) (on : Int32) (cN : Nat → Int32) (v : Nat) (v3 : Nat) (v4 : Nat) (v5 : Nat) (v6 : Nat) (v7 : Nat) (v8 : Nat) (v9 : Nat) (v10 : Nat) (v11 : Nat) (v12 : Nat) (v13 : Nat) (v15 : Nat) (pe : Nat) (lc : Int32) (de : Int32) (gl : Int32) (K : Nat → Int32) (cd : Nat → Int32) (cl : Nat → Int32) (y : Int32) (hi : i < nv) (hn : nv ≤ 10) (hA : fA i = some v) (hpe : pe ≤ 7) (hcl : OK6 cl) : MetI l g yX11_kept cX11_kept 4 (some .int) 3 0 0 [.ref h0, .int (nI i), .int y] [(h0, .inr (11, [.ref a0, .ref a1, .ref a2, .ref a3, .ref a4, .ref a5, .ref a6, .ref a7, .ref a8, .ref a9, .ref a10, .int (nI nv), .int (nI np), .int cc])), (a1, .inl (g.2.1 4, 10, .inr (.inr (.inr (.inr fA))))), (a8, .inr (0, [gv, .int kn, .int on, .ref yc, .ref yt, .ref yh, .ref yo])), (yc, .inl (g.2.1 1, 7, .inl cN)), (v, .inr (10, [.int (nI pe), .int lc, .int de, .ref v3, .ref v4, .ref v5, .ref v6, .ref v7, .ref v8, .ref v9, .ref v10, .ref v11, .ref v12, .ref v13, .int gl, .ref v15])), (v10, .inl (g.2.1 1, 175, .inl K)), (v11, .inl (g.2.1 1, 42, .inl cd)), (v12, .inl (g.2.1 1, 7, .inl cl))] (fun r u => r = (F_X11_kept1 gv kn on cN v pe de K cd cl y).1 ∧ u = [(h0, .inr (11, [.ref a0, .ref a1, .ref a2, .ref a3, .ref a4, .ref a5, .ref a6, .ref a7, .ref a8, .ref a9, .ref a10, .int (nI nv), .int (nI np), .int cc])), (a1, .inl (g.2.1 4, 10, .inr (.inr (.inr (.inr fA))))), (a8, .inr (0, [((F_X11_kept1 gv kn on cN v pe de K cd cl y).2.2.2.2), .int ((F_X11_kept1 gv kn on cN v pe de K cd cl y).2.2.1), .int ((F_X11_kept1 gv kn on cN v pe de K cd cl y).2.2.2.1), .ref yc, .ref yt, .ref yh, .ref yo])), (yc, .inl (g.2.1 1, 7, .inl ((F_X11_kept1 gv kn on cN v pe de K cd cl y).2.1))), (v, .inr (10, [.int (nI pe), .int lc, .int de, .ref v3, .ref v4, .ref v5, .ref v6, .ref v7, .ref v8, .ref v9, .ref v10, .ref v11, .ref v12, .ref v13, .int gl, .ref v15])), (v10, .inl (g.2.1 1, 175, .inl K)), (v11, .inl (g.2.1 1, 42, .inl cd)), (v12, .inl (g.2.1 1, 7, .inl cl))]) := by
  refine MetI.of (own := RX11) rfl (by decide) (Nat.le_of_ble_eq_true rfl) ?_
  intro p e s m below meth c A ls args Q hQ X hr hin hW hl
  have hx := X.1
  have hb := X.2.1
  have hl : lv_has ls 4 [(0, .ref h0), (1, .int (nI i)), (2, .int y)] := hl
  refine lv_aload_n (pc := 0) hx hb dX11_kept_0 rfl (lv_at hl 0 rfl) ?_
  refine lv_iload_n (pc := 1) hx hb dX11_kept_1 rfl (lv_at hl 1 rfl) ?_
  refine c_Vq (pc := 2) (As := [.int (nI i)]) (rest := []) (wr := [(a8, .inr (0, [gv, .int kn, .int on, .ref yc, .ref yt, .ref yh, .ref yo])), (yc, .inl (g.2.1 1, 7, .inl cN)), (v, .inr (10, [.int (nI pe), .int lc, .int de, .ref v3, .ref v4, .ref v5, .ref v6, .ref v7, .ref v8, .ref v9, .ref v10, .ref v11, .ref v12, .ref v13, .int gl, .ref v15])), (v10, .inl (g.2.1 1, 175, .inl K)), (v11, .inl (g.2.1 1, 42, .inl cd)), (v12, .inl (g.2.1 1, 7, .inl cl))]) X hW 0 ciX11 rfl (C_X11_valleyAt1 l g h0 a0 a1 a2 a3 a4 a5 a6 a7 a8 a9 a10 nv np cc fA i v (by omega) (by omega) hA) vX11_101 [0, 1] [2, 3, 4, 5, 6, 7] rfl rfl rfl rfl rfl rfl hl.1 rfl (Nat.le_of_ble_eq_true rfl) ⟨Nat.le_of_ble_eq_true rfl, Nat.le_of_ble_eq_true rfl⟩ ⟨Nat.le_of_ble_eq_true rfl, Nat.le_of_ble_eq_true rfl⟩ dX11_kept_2 (fun r1 u9 H locs hq hW => ?_)
  obtain ⟨rfl, rfl⟩ := hq
  have hW : WD g A s _ _ [(a8, .inr (0, [gv, .int kn, .int on, .ref yc, .ref yt, .ref yh, .ref yo])), (yc, .inl (g.2.1 1, 7, .inl cN)), (v, .inr (10, [.int (nI pe), .int lc, .int de, .ref v3, .ref v4, .ref v5, .ref v6, .ref v7, .ref v8, .ref v9, .ref v10, .ref v11, .ref v12, .ref v13, .int gl, .ref v15])), (v10, .inl (g.2.1 1, 175, .inl K)), (v11, .inl (g.2.1 1, 42, .inl cd)), (v12, .inl (g.2.1 1, 7, .inl cl)), (h0, .inr (11, [.ref a0, .ref a1, .ref a2, .ref a3, .ref a4, .ref a5, .ref a6, .ref a7, .ref a8, .ref a9, .ref a10, .int (nI nv), .int (nI np), .int cc])), (a1, .inl (g.2.1 4, 10, .inr (.inr (.inr (.inr fA)))))] := hW
  refine lv_astore_n (lv' := [(3, .ref v), (0, .ref h0), (1, .int (nI i)), (2, .int y)]) (pc := 5) hx hb dX11_kept_5 rfl hl (by decide) rfl (fun ls hl => ?_)
  refine lv_aload_n (pc := 6) hx hb dX11_kept_6 rfl (lv_at hl 0 rfl) ?_
  refine lv_ifnull (pc := 7) hx hb dX11_kept_7 ?_
  refine lv_aload_n (pc := 10) hx hb dX11_kept_10 rfl (lv_at hl 0 rfl) ?_
  refine lv_iload_n (pc := 11) hx hb dX11_kept_11 rfl (lv_at hl 3 rfl) ?_
  refine c_Vi (pc := 12) (As := [.int y]) (rest := []) (wr := [(a8, .inr (0, [gv, .int kn, .int on, .ref yc, .ref yt, .ref yh, .ref yo])), (yc, .inl (g.2.1 1, 7, .inl cN)), (v10, .inl (g.2.1 1, 175, .inl K)), (v11, .inl (g.2.1 1, 42, .inl cd)), (v12, .inl (g.2.1 1, 7, .inl cl)), (h0, .inr (11, [.ref a0, .ref a1, .ref a2, .ref a3, .ref a4, .ref a5, .ref a6, .ref a7, .ref a8, .ref a9, .ref a10, .int (nI nv), .int (nI np), .int cc])), (a1, .inl (g.2.1 4, 10, .inr (.inr (.inr (.inr fA)))))]) X hW 2 ciX10 rfl (K_X10_hasPerson l g v v3 v4 v5 v6 v7 v8 v9 v10 v11 v12 v13 v15 (nI pe) lc de gl y) vX11_168 [2] [0, 1, 3, 4, 5, 6, 7] rfl rfl rfl rfl rfl rfl hl.1 rfl (Nat.le_of_ble_eq_true rfl) ⟨Nat.le_of_ble_eq_true rfl, Nat.le_of_ble_eq_true rfl⟩ ⟨Nat.le_of_ble_eq_true rfl, Nat.le_of_ble_eq_true rfl⟩ dX11_kept_12 (fun r2 u9 H locs hq hW => ?_)
  obtain ⟨rfl, rfl⟩ := hq
  have hW : WD g A s _ _ [(a8, .inr (0, [gv, .int kn, .int on, .ref yc, .ref yt, .ref yh, .ref yo])), (yc, .inl (g.2.1 1, 7, .inl cN)), (v10, .inl (g.2.1 1, 175, .inl K)), (v11, .inl (g.2.1 1, 42, .inl cd)), (v12, .inl (g.2.1 1, 7, .inl cl)), (h0, .inr (11, [.ref a0, .ref a1, .ref a2, .ref a3, .ref a4, .ref a5, .ref a6, .ref a7, .ref a8, .ref a9, .ref a10, .int (nI nv), .int (nI np), .int cc])), (a1, .inl (g.2.1 4, 10, .inr (.inr (.inr (.inr fA))))), (v, .inr (10, [.int (nI pe), .int lc, .int de, .ref v3, .ref v4, .ref v5, .ref v6, .ref v7, .ref v8, .ref v9, .ref v10, .ref v11, .ref v12, .ref v13, .int gl, .ref v15]))] := hW
  refine lv_if_ne (tgt := 20) (pc := 15) hx hb dX11_kept_15 rfl (fun c3 => ?_) (fun c3 => ?_)
  · refine lv_aload_n (pc := 20) hx hb dX11_kept_20 rfl (lv_at hl 1 rfl) ?_
    refine r_get X hW 5 ciX11 8 rfl (by decide) m_361 rfl rfl dX11_kept_21 ?_
    refine lv_aload_n (pc := 24) hx hb dX11_kept_24 rfl (lv_at hl 0 rfl) ?_
    refine lv_iload_n (pc := 25) hx hb dX11_kept_25 rfl (lv_at hl 3 rfl) ?_
    refine c_Vi (pc := 26) (As := [.ref v, .int y]) (rest := []) (wr := [(h0, .inr (11, [.ref a0, .ref a1, .ref a2, .ref a3, .ref a4, .ref a5, .ref a6, .ref a7, .ref a8, .ref a9, .ref a10, .int (nI nv), .int (nI np), .int cc])), (a1, .inl (g.2.1 4, 10, .inr (.inr (.inr (.inr fA)))))]) X hW 0 ciX0 rfl (K_X0_hoursTillAllKnow l g gv a8 yc yt yh yo kn on cN v v3 v4 v5 v6 v7 v8 v9 v10 v11 v12 v13 v15 pe lc de gl K cd cl y hcl (by omega)) vX11_276 [0, 1, 7, 2, 3, 4] [5, 6] rfl rfl rfl rfl rfl rfl hl.1 rfl (Nat.le_of_ble_eq_true rfl) ⟨Nat.le_of_ble_eq_true rfl, Nat.le_of_ble_eq_true rfl⟩ ⟨Nat.le_of_ble_eq_true rfl, Nat.le_of_ble_eq_true rfl⟩ dX11_kept_26 (fun r5 u9 H locs hq hW => ?_)
    obtain ⟨rfl, rfl⟩ := hq
    have hW : WD g A s _ _ [(h0, .inr (11, [.ref a0, .ref a1, .ref a2, .ref a3, .ref a4, .ref a5, .ref a6, .ref a7, .ref a8, .ref a9, .ref a10, .int (nI nv), .int (nI np), .int cc])), (a1, .inl (g.2.1 4, 10, .inr (.inr (.inr (.inr fA))))), (a8, .inr (0, [.ref v, .int ((F_X0_hoursTillAllKnow pe de K cd cl y).2.2.1), .int ((F_X0_hoursTillAllKnow pe de K cd cl y).2.2.2), .ref yc, .ref yt, .ref yh, .ref yo])), (yc, .inl (g.2.1 1, 7, .inl ((F_X0_hoursTillAllKnow pe de K cd cl y).2.1))), (v, .inr (10, [.int (nI pe), .int lc, .int de, .ref v3, .ref v4, .ref v5, .ref v6, .ref v7, .ref v8, .ref v9, .ref v10, .ref v11, .ref v12, .ref v13, .int gl, .ref v15])), (v10, .inl (g.2.1 1, 175, .inl K)), (v11, .inl (g.2.1 1, 42, .inl cd)), (v12, .inl (g.2.1 1, 7, .inl cl))] := hW
    have hF : F_X11_kept1 gv kn on cN v pe de K cd cl y = ((F_X0_hoursTillAllKnow pe de K cd cl y).1, ((F_X0_hoursTillAllKnow pe de K cd cl y).2.1), (F_X0_hoursTillAllKnow pe de K cd cl y).2.2.1, (F_X0_hoursTillAllKnow pe de K cd cl y).2.2.2, (.ref v)) := show F_X11_kept1 gv kn on cN v pe de K cd cl y = ((F_X0_hoursTillAllKnow pe de K cd cl y).1, ((F_X0_hoursTillAllKnow pe de K cd cl y).2.1), (F_X0_hoursTillAllKnow pe de K cd cl y).2.2.1, (F_X0_hoursTillAllKnow pe de K cd cl y).2.2.2, (.ref v)) from by rw [F_X11_kept1, if_neg c3]
    exact e_i (u := [(h0, .inr (11, [.ref a0, .ref a1, .ref a2, .ref a3, .ref a4, .ref a5, .ref a6, .ref a7, .ref a8, .ref a9, .ref a10, .int (nI nv), .int (nI np), .int cc])), (a1, .inl (g.2.1 4, 10, .inr (.inr (.inr (.inr fA))))), (a8, .inr (0, [.ref v, .int ((F_X0_hoursTillAllKnow pe de K cd cl y).2.2.1), .int ((F_X0_hoursTillAllKnow pe de K cd cl y).2.2.2), .ref yc, .ref yt, .ref yh, .ref yo])), (yc, .inl (g.2.1 1, 7, .inl ((F_X0_hoursTillAllKnow pe de K cd cl y).2.1))), (v, .inr (10, [.int (nI pe), .int lc, .int de, .ref v3, .ref v4, .ref v5, .ref v6, .ref v7, .ref v8, .ref v9, .ref v10, .ref v11, .ref v12, .ref v13, .int gl, .ref v15])), (v10, .inl (g.2.1 1, 175, .inl K)), (v11, .inl (g.2.1 1, 42, .inl cd)), (v12, .inl (g.2.1 1, 7, .inl cl))]) X hQ hr (hW) [0, 1, 2, 3, 4, 5, 6, 7] rfl rfl (⟨(congrArg Prod.fst hF).symm, by rw [hF]⟩) ⟨Nat.le_of_ble_eq_true rfl, Nat.le_of_ble_eq_true rfl⟩ dX11_kept_29
  · refine lv_iconst (v := (-1)) (pc := 18) hx hb dX11_kept_18 (by decide) ?_
    have hF : F_X11_kept1 gv kn on cN v pe de K cd cl y = ((-1 : Int32), cN, kn, on, gv) := show F_X11_kept1 gv kn on cN v pe de K cd cl y = ((-1 : Int32), cN, kn, on, gv) from by rw [F_X11_kept1, if_pos c3]
    exact e_i (u := [(h0, .inr (11, [.ref a0, .ref a1, .ref a2, .ref a3, .ref a4, .ref a5, .ref a6, .ref a7, .ref a8, .ref a9, .ref a10, .int (nI nv), .int (nI np), .int cc])), (a1, .inl (g.2.1 4, 10, .inr (.inr (.inr (.inr fA))))), (a8, .inr (0, [gv, .int kn, .int on, .ref yc, .ref yt, .ref yh, .ref yo])), (yc, .inl (g.2.1 1, 7, .inl cN)), (v, .inr (10, [.int (nI pe), .int lc, .int de, .ref v3, .ref v4, .ref v5, .ref v6, .ref v7, .ref v8, .ref v9, .ref v10, .ref v11, .ref v12, .ref v13, .int gl, .ref v15])), (v10, .inl (g.2.1 1, 175, .inl K)), (v11, .inl (g.2.1 1, 42, .inl cd)), (v12, .inl (g.2.1 1, 7, .inl cl))]) X hQ hr (hW) [5, 6, 0, 1, 7, 2, 3, 4] rfl rfl (⟨(congrArg Prod.fst hF).symm, by rw [hF]⟩) ⟨Nat.le_of_ble_eq_true rfl, Nat.le_of_ble_eq_true rfl⟩ dX11_kept_19

def OKG (cL : Nat → Int32) (b : Nat) (f : Nat → Int32) : Prop := ∀ j : Nat, j < 7 → f j = nI (tN (f j)) ∧ tN (f j) ≤ tN (cL (7 * b + j))
theorem okg_0 {cL f : Nat → Int32} {b : Nat} (h : ∀ j : Nat, j < 7 → f j = 0) : OKG cL b f := fun j hj => by rw [h j hj]; exact ⟨rfl, Nat.zero_le _⟩
theorem okg_up {cL f : Nat → Int32} {b k n : Nat} (h : OKG cL b f) (hn : n ≤ tN (cL (7 * b + k))) (h6 : n ≤ 6) : OKG cL b (upd f k (nI n)) := fun j hj => by
  by_cases e : j = k
  · subst e; rw [upd_eq, tN_nI (by omega)]; exact ⟨rfl, hn⟩
  · rw [upd_ne e]; exact h j hj
def L3_X12_kepts (rL : Nat → Int32) (rA : Nat → Int32) (rB : Nat → Int32) (rF : Nat → Int32) (rT : Nat → Int32) (rW : Nat → Int32) (rO : Nat → Int32) (cD : Nat → Int32) (cL : Nat → Int32) (x : Int32) (j2 : Nat) (x3_2 : Int32) (j3 : Nat) (x6_3 : Int32) (fb54_3 : Nat → Int32) : Int32 × (Nat → Int32) := if (x3_2 >>> ((nI j3) &&& 31)) &&& (1 : Int32) = 0 then ((x6_3, fb54_3)) else (if nI (tN (fb54_3 j3)) = nI (tN (cL (7 * (tN x) + j3))) then ((x6_3, fb54_3)) else (if (x6_3 >>> ((nI (tN (cD (6 * (7 * (tN x) + j3) + tN (fb54_3 j3))))) &&& 31)) &&& (1 : Int32) = 1 then ((x6_3, fb54_3)) else (if F_X12_mayCall rA rB rF rT rW rO (tN (rL (tN x))) (tN x) j3 (tN (cD (6 * (7 * (tN x) + j3) + tN (fb54_3 j3)))) (nI j2) = 0 then ((x6_3, fb54_3)) else ((x6_3 ||| ((1 : Int32) <<< ((nI (tN (cD (6 * (7 * (tN x) + j3) + tN (fb54_3 j3))))) &&& 31)), (upd fb54_3 j3 (nI (tN (fb54_3 j3) + 1))))))))
def L3_X12_kept (rL : Nat → Int32) (rA : Nat → Int32) (rB : Nat → Int32) (rF : Nat → Int32) (rT : Nat → Int32) (rW : Nat → Int32) (rO : Nat → Int32) (cD : Nat → Int32) (cL : Nat → Int32) (x : Int32) (j2 : Nat) (x3_2 : Int32) (i0_ : Int32) (i1_ : Nat → Int32) : Nat → Int32 × (Nat → Int32)
  | 0 => (i0_, i1_)
  | k_ + 1 => L3_X12_kepts rL rA rB rF rT rW rO cD cL x j2 x3_2 k_ ((L3_X12_kept rL rA rB rF rT rW rO cD cL x j2 x3_2 i0_ i1_ k_).1) ((L3_X12_kept rL rA rB rF rT rW rO cD cL x j2 x3_2 i0_ i1_ k_).2)
def L2_X12_kept (rP : Nat → Int32) (rL : Nat → Int32) (rD : Nat → Int32) (rA : Nat → Int32) (rB : Nat → Int32) (rF : Nat → Int32) (rT : Nat → Int32) (rW : Nat → Int32) (rO : Nat → Int32) (cD : Nat → Int32) (cL : Nat → Int32) (x : Int32) : Nat → Nat → Int32 → Int32 → (Nat → Int32) → Int32 × (Nat → Int32)
  | 0, _, _, _, _ => (0, fun _ => 0)
  | m_ + 1, j2, x4_2, x3_2, fb54_2 => if 24 < nI j2 then (((-1 : Int32), fb54_2)) else (if nI j2 ≤ 0 then (if x3_2 = F_X12_everybody rP (tN x) then ((nI j2, fb54_2)) else (L2_X12_kept rP rL rD rA rB rF rT rW rO cD cL x m_ (j2 + 1) x4_2 x3_2 fb54_2)) else (if x3_2 ||| ((((L3_X12_kept rL rA rB rF rT rW rO cD cL x j2 x3_2 (0 : Int32) fb54_2 (tN (rP (tN x)))).1) &&& (x3_2 ^^^ (-1 : Int32))) &&& (((rD (tN x)) ^^^ (-1 : Int32)) ||| x4_2)) = F_X12_everybody rP (tN x) then ((nI j2, ((L3_X12_kept rL rA rB rF rT rW rO cD cL x j2 x3_2 (0 : Int32) fb54_2 (tN (rP (tN x)))).2))) else (L2_X12_kept rP rL rD rA rB rF rT rW rO cD cL x m_ (j2 + 1) (x4_2 ||| ((L3_X12_kept rL rA rB rF rT rW rO cD cL x j2 x3_2 (0 : Int32) fb54_2 (tN (rP (tN x)))).1)) (x3_2 ||| ((((L3_X12_kept rL rA rB rF rT rW rO cD cL x j2 x3_2 (0 : Int32) fb54_2 (tN (rP (tN x)))).1) &&& (x3_2 ^^^ (-1 : Int32))) &&& (((rD (tN x)) ^^^ (-1 : Int32)) ||| x4_2))) ((L3_X12_kept rL rA rB rF rT rW rO cD cL x j2 x3_2 (0 : Int32) fb54_2 (tN (rP (tN x)))).2))))
def L1_X12_kepts  (j1 : Nat) (fb54_1 : Nat → Int32) : (Nat → Int32) := (upd fb54_1 j1 (0 : Int32))
def L1_X12_kept  (i0_ : Nat → Int32) : Nat → (Nat → Int32)
  | 0 => (i0_)
  | k_ + 1 => L1_X12_kepts  k_ (L1_X12_kept  i0_ k_)
def F_X12_kept (nv : Nat) (rP : Nat → Int32) (rL : Nat → Int32) (rD : Nat → Int32) (rA : Nat → Int32) (rB : Nat → Int32) (rF : Nat → Int32) (rT : Nat → Int32) (rW : Nat → Int32) (rO : Nat → Int32) (cD : Nat → Int32) (cL : Nat → Int32) (gN : Nat → Int32) (x : Int32) (y : Int32) : Int32 × (Nat → Int32) := if F_X12_isValley nv x = 0 then (((-1 : Int32), gN)) else (if F_X12_isPerson rP (tN x) y = 0 then (((-1 : Int32), gN)) else (L2_X12_kept rP rL rD rA rB rF rT rW rO cD cL x (25 + 1) 0 (0 : Int32) ((1 : Int32) <<< (y &&& 31)) (L1_X12_kept gN 7)))
theorem kz_at {g : Nat → Int32} : ∀ k j : Nat, j < k → L1_X12_kept g k j = 0
  | 0, j, h => absurd h (Nat.not_lt_zero j)
  | k + 1, j, h => by
    show upd (L1_X12_kept g k) k 0 j = 0
    by_cases e : j = k
    · subst e; rw [upd_eq]
    · rw [upd_ne e]; exact kz_at k j (by omega)
set_option maxHeartbeats 4000000 in
set_option maxRecDepth 100000 in
theorem K_X12_kept (l : Launch) (g : GG) (h0 : Nat) (vs : List Value) (nv : Nat) (b6 : Nat) (rP : Nat → Int32) (b7 : Nat) (rL : Nat → Int32) (b8 : Nat) (rD : Nat → Int32) (b12 : Nat) (rA : Nat → Int32) (b13 : Nat) (rB : Nat → Int32) (b14 : Nat) (rF : Nat → Int32) (b15 : Nat) (rT : Nat → Int32) (b16 : Nat) (rW : Nat → Int32) (b17 : Nat) (rO : Nat → Int32) (b52 : Nat) (cD : Nat → Int32) (b53 : Nat) (cL : Nat → Int32) (b54 : Nat) (gN : Nat → Int32) (x : Int32) (y : Int32) (hlen : vs.length = 64) (h18_ : vs[18]? = some (.int (nI nv))) (h6_ : vs[6]? = some (.ref b6)) (h7_ : vs[7]? = some (.ref b7)) (h8_ : vs[8]? = some (.ref b8)) (h12_ : vs[12]? = some (.ref b12)) (h13_ : vs[13]? = some (.ref b13)) (h14_ : vs[14]? = some (.ref b14)) (h15_ : vs[15]? = some (.ref b15)) (h16_ : vs[16]? = some (.ref b16)) (h17_ : vs[17]? = some (.ref b17)) (h52_ : vs[52]? = some (.ref b52)) (h53_ : vs[53]? = some (.ref b53)) (h54_ : vs[54]? = some (.ref b54)) (h19_ : vs[19]? = some (.int (-1))) (h20_ : vs[20]? = some (.int (-1))) (hn : nv ≤ 10) (hLc : ∀ j : Nat, j < nv → rL j = nI (tN (rL j)) ∧ tN (rL j) ≤ 12) (hP : ∀ j : Nat, j < nv → rP j = nI (tN (rP j)) ∧ tN (rP j) ≤ 7) (hcL : ∀ j : Nat, j < 77 → cL j = nI (tN (cL j)) ∧ tN (cL j) ≤ 6) (hcD : ∀ j : Nat, j < 420 → cD j = nI (tN (cD j)) ∧ tN (cD j) < 7) : MetI l g yX12_kept cX12_kept 10 (some .int) 2 0 0 [.ref h0, .int x, .int y] [(h0, .inr (12, vs)), (b6, .inl (g.2.1 1, 11, .inl rP)), (b7, .inl (g.2.1 1, 11, .inl rL)), (b8, .inl (g.2.1 1, 11, .inl rD)), (b12, .inl (g.2.1 1, 132, .inl rA)), (b13, .inl (g.2.1 1, 132, .inl rB)), (b14, .inl (g.2.1 1, 132, .inl rF)), (b15, .inl (g.2.1 1, 132, .inl rT)), (b16, .inl (g.2.1 1, 132, .inl rW)), (b17, .inl (g.2.1 3, 132, .inl rO)), (b52, .inl (g.2.1 1, 420, .inl cD)), (b53, .inl (g.2.1 1, 77, .inl cL)), (b54, .inl (g.2.1 1, 7, .inl gN))] (fun r u => r = (F_X12_kept nv rP rL rD rA rB rF rT rW rO cD cL gN x y).1 ∧ u = [(h0, .inr (12, (vs.set 0 (.int 0)))), (b6, .inl (g.2.1 1, 11, .inl rP)), (b7, .inl (g.2.1 1, 11, .inl rL)), (b8, .inl (g.2.1 1, 11, .inl rD)), (b12, .inl (g.2.1 1, 132, .inl rA)), (b13, .inl (g.2.1 1, 132, .inl rB)), (b14, .inl (g.2.1 1, 132, .inl rF)), (b15, .inl (g.2.1 1, 132, .inl rT)), (b16, .inl (g.2.1 1, 132, .inl rW)), (b17, .inl (g.2.1 3, 132, .inl rO)), (b52, .inl (g.2.1 1, 420, .inl cD)), (b53, .inl (g.2.1 1, 77, .inl cL)), (b54, .inl (g.2.1 1, 7, .inl ((F_X12_kept nv rP rL rD rA rB rF rT rW rO cD cL gN x y).2)))]) := by
  refine MetI.of (own := RX12) rfl (by decide) (Nat.le_of_ble_eq_true rfl) ?_
  intro p e s m below meth c A ls args Q hQ X hr hin hW hl
  have hx := X.1
  have hb := X.2.1
  have hl : lv_has ls 10 [(0, .ref h0), (1, .int x), (2, .int y)] := hl
  refine lv_aload_n (pc := 0) hx hb dX12_kept_0 rfl (lv_at hl 0 rfl) ?_
  refine lv_iconst (v := 0) (pc := 1) hx hb dX12_kept_1 (by decide) ?_
  refine r_put (ws' := [(h0, .inr (12, (vs.set 0 (.int 0)))), (b6, .inl (g.2.1 1, 11, .inl rP)), (b7, .inl (g.2.1 1, 11, .inl rL)), (b8, .inl (g.2.1 1, 11, .inl rD)), (b12, .inl (g.2.1 1, 132, .inl rA)), (b13, .inl (g.2.1 1, 132, .inl rB)), (b14, .inl (g.2.1 1, 132, .inl rF)), (b15, .inl (g.2.1 1, 132, .inl rT)), (b16, .inl (g.2.1 1, 132, .inl rW)), (b17, .inl (g.2.1 3, 132, .inl rO)), (b52, .inl (g.2.1 1, 420, .inl cD)), (b53, .inl (g.2.1 1, 77, .inl cL)), (b54, .inl (g.2.1 1, 7, .inl gN))]) X hW 0 ciX12 0 rfl (by decide) m_1231 rfl rfl rfl rfl (sv_lt (by decide) hlen) rfl dX12_kept_2 (fun H locs hW => ?_)
  refine lv_aload_n (pc := 5) hx hb dX12_kept_5 rfl (lv_at hl 0 rfl) ?_
  refine lv_iload_n (pc := 6) hx hb dX12_kept_6 rfl (lv_at hl 1 rfl) ?_
  refine c_Vi (pc := 7) (As := [.int x]) (rest := []) (wr := [(b6, .inl (g.2.1 1, 11, .inl rP)), (b7, .inl (g.2.1 1, 11, .inl rL)), (b8, .inl (g.2.1 1, 11, .inl rD)), (b12, .inl (g.2.1 1, 132, .inl rA)), (b13, .inl (g.2.1 1, 132, .inl rB)), (b14, .inl (g.2.1 1, 132, .inl rF)), (b15, .inl (g.2.1 1, 132, .inl rT)), (b16, .inl (g.2.1 1, 132, .inl rW)), (b17, .inl (g.2.1 3, 132, .inl rO)), (b52, .inl (g.2.1 1, 420, .inl cD)), (b53, .inl (g.2.1 1, 77, .inl cL)), (b54, .inl (g.2.1 1, 7, .inl gN))]) X hW 0 ciX12 rfl (K_X12_isValley l g h0 (vs.set 0 (.int 0)) nv x (sv_len hlen) (sv_ne (k := 0) (by decide) h18_)) vX12_221 [0] [1, 2, 3, 4, 5, 6, 7, 8, 9, 10, 11, 12] rfl rfl rfl rfl rfl rfl hl.1 rfl (Nat.le_of_ble_eq_true rfl) ⟨Nat.le_of_ble_eq_true rfl, Nat.le_of_ble_eq_true rfl⟩ ⟨Nat.le_of_ble_eq_true rfl, Nat.le_of_ble_eq_true rfl⟩ dX12_kept_7 (fun r1 u9 H locs hq hW => ?_)
  obtain ⟨rfl, rfl⟩ := hq
  have hW : WD g A s _ _ [(b6, .inl (g.2.1 1, 11, .inl rP)), (b7, .inl (g.2.1 1, 11, .inl rL)), (b8, .inl (g.2.1 1, 11, .inl rD)), (b12, .inl (g.2.1 1, 132, .inl rA)), (b13, .inl (g.2.1 1, 132, .inl rB)), (b14, .inl (g.2.1 1, 132, .inl rF)), (b15, .inl (g.2.1 1, 132, .inl rT)), (b16, .inl (g.2.1 1, 132, .inl rW)), (b17, .inl (g.2.1 3, 132, .inl rO)), (b52, .inl (g.2.1 1, 420, .inl cD)), (b53, .inl (g.2.1 1, 77, .inl cL)), (b54, .inl (g.2.1 1, 7, .inl gN)), (h0, .inr (12, (vs.set 0 (.int 0))))] := hW
  refine lv_if_eq (tgt := 22) (pc := 10) hx hb dX12_kept_10 rfl (fun c2 => ?_) (fun c2 => ?_)
  · refine lv_iconst (v := (-1)) (pc := 22) hx hb dX12_kept_22 (by decide) ?_
    have hF : F_X12_kept nv rP rL rD rA rB rF rT rW rO cD cL gN x y = ((-1 : Int32), gN) := show F_X12_kept nv rP rL rD rA rB rF rT rW rO cD cL gN x y = ((-1 : Int32), gN) from by rw [F_X12_kept, if_pos c2]
    exact e_i (u := [(h0, .inr (12, (vs.set 0 (.int 0)))), (b6, .inl (g.2.1 1, 11, .inl rP)), (b7, .inl (g.2.1 1, 11, .inl rL)), (b8, .inl (g.2.1 1, 11, .inl rD)), (b12, .inl (g.2.1 1, 132, .inl rA)), (b13, .inl (g.2.1 1, 132, .inl rB)), (b14, .inl (g.2.1 1, 132, .inl rF)), (b15, .inl (g.2.1 1, 132, .inl rT)), (b16, .inl (g.2.1 1, 132, .inl rW)), (b17, .inl (g.2.1 3, 132, .inl rO)), (b52, .inl (g.2.1 1, 420, .inl cD)), (b53, .inl (g.2.1 1, 77, .inl cL)), (b54, .inl (g.2.1 1, 7, .inl gN))]) X hQ hr (hW) [12, 0, 1, 2, 3, 4, 5, 6, 7, 8, 9, 10, 11] rfl rfl (⟨(congrArg Prod.fst hF).symm, by rw [hF]⟩) ⟨Nat.le_of_ble_eq_true rfl, Nat.le_of_ble_eq_true rfl⟩ dX12_kept_23
  · have hvx := rv_at (n := nv) (by omega) c2
    have hvx2 := hvx.2
    rw [hvx.1] at hl
    have hPe := hP (tN x) hvx2
    have hPe2 := hPe.2
    have hL12 := hLc (tN x) hvx2
    refine lv_aload_n (pc := 13) hx hb dX12_kept_13 rfl (lv_at hl 0 rfl) ?_
    refine lv_iload_n (pc := 14) hx hb dX12_kept_14 rfl (lv_at hl 1 rfl) ?_
    refine lv_iload_n (pc := 15) hx hb dX12_kept_15 rfl (lv_at hl 2 rfl) ?_
    refine c_Vi (pc := 16) (As := [.int (nI (tN x)), .int y]) (rest := []) (wr := [(b7, .inl (g.2.1 1, 11, .inl rL)), (b8, .inl (g.2.1 1, 11, .inl rD)), (b12, .inl (g.2.1 1, 132, .inl rA)), (b13, .inl (g.2.1 1, 132, .inl rB)), (b14, .inl (g.2.1 1, 132, .inl rF)), (b15, .inl (g.2.1 1, 132, .inl rT)), (b16, .inl (g.2.1 1, 132, .inl rW)), (b17, .inl (g.2.1 3, 132, .inl rO)), (b52, .inl (g.2.1 1, 420, .inl cD)), (b53, .inl (g.2.1 1, 77, .inl cL)), (b54, .inl (g.2.1 1, 7, .inl gN))]) X hW 12 ciX12 rfl (K_X12_isPerson l g h0 (vs.set 0 (.int 0)) b6 rP (tN x) y (sv_len hlen) (sv_ne (k := 0) (by decide) h6_) (by omega)) vX12_237 [12, 0] [1, 2, 3, 4, 5, 6, 7, 8, 9, 10, 11] rfl rfl rfl rfl rfl rfl hl.1 rfl (Nat.le_of_ble_eq_true rfl) ⟨Nat.le_of_ble_eq_true rfl, Nat.le_of_ble_eq_true rfl⟩ ⟨Nat.le_of_ble_eq_true rfl, Nat.le_of_ble_eq_true rfl⟩ dX12_kept_16 (fun r5 u9 H locs hq hW => ?_)
    obtain ⟨rfl, rfl⟩ := hq
    have hW : WD g A s _ _ [(b7, .inl (g.2.1 1, 11, .inl rL)), (b8, .inl (g.2.1 1, 11, .inl rD)), (b12, .inl (g.2.1 1, 132, .inl rA)), (b13, .inl (g.2.1 1, 132, .inl rB)), (b14, .inl (g.2.1 1, 132, .inl rF)), (b15, .inl (g.2.1 1, 132, .inl rT)), (b16, .inl (g.2.1 1, 132, .inl rW)), (b17, .inl (g.2.1 3, 132, .inl rO)), (b52, .inl (g.2.1 1, 420, .inl cD)), (b53, .inl (g.2.1 1, 77, .inl cL)), (b54, .inl (g.2.1 1, 7, .inl gN)), (h0, .inr (12, (vs.set 0 (.int 0)))), (b6, .inl (g.2.1 1, 11, .inl rP))] := hW
    refine lv_if_ne (tgt := 24) (pc := 19) hx hb dX12_kept_19 rfl (fun c6 => ?_) (fun c6 => ?_)
    · refine lv_iconst (v := 1) (pc := 24) hx hb dX12_kept_24 (by decide) ?_
      refine lv_iload_n (pc := 25) hx hb dX12_kept_25 rfl (lv_at hl 2 rfl) ?_
      refine lv_ishl (pc := 26) hx hb dX12_kept_26 ?_
      refine lv_istore_n (lv' := [(3, .int ((1 : Int32) <<< (y &&& 31))), (0, .ref h0), (1, .int (nI (tN x))), (2, .int y)]) (pc := 27) hx hb dX12_kept_27 rfl hl (by decide) rfl (fun ls hl => ?_)
      refine lv_iconst (v := 0) (pc := 28) hx hb dX12_kept_28 (by decide) ?_
      refine lv_istore (lv' := [(4, .int 0), (3, .int ((1 : Int32) <<< (y &&& 31))), (0, .ref h0), (1, .int (nI (tN x))), (2, .int y)]) (pc := 29) hx hb dX12_kept_29 hl (by decide) rfl (fun ls hl => ?_)
      refine lv_iconst (v := 0) (pc := 31) hx hb dX12_kept_31 (by decide) ?_
      refine lv_istore (lv' := [(5, .int 0), (4, .int 0), (3, .int ((1 : Int32) <<< (y &&& 31))), (0, .ref h0), (1, .int (nI (tN x))), (2, .int y)]) (pc := 32) hx hb dX12_kept_32 hl (by decide) rfl (fun ls hl => ?_)
      have loop1 : ∀ (fu1 : Nat) (j1 : Nat) (fb54_1 : Nat → Int32), (7 < fu1 + j1) → (j1 ≤ 7) → (fb54_1 = L1_X12_kept gN j1) → ∀ (H : Heap) (locs : List Loc) (ls : Array Slot), WD g A s H locs [(b7, .inl (g.2.1 1, 11, .inl rL)), (b8, .inl (g.2.1 1, 11, .inl rD)), (b12, .inl (g.2.1 1, 132, .inl rA)), (b13, .inl (g.2.1 1, 132, .inl rB)), (b14, .inl (g.2.1 1, 132, .inl rF)), (b15, .inl (g.2.1 1, 132, .inl rT)), (b16, .inl (g.2.1 1, 132, .inl rW)), (b17, .inl (g.2.1 3, 132, .inl rO)), (b52, .inl (g.2.1 1, 420, .inl cD)), (b53, .inl (g.2.1 1, 77, .inl cL)), (b54, .inl (g.2.1 1, 7, .inl fb54_1)), (h0, .inr (12, (vs.set 0 (.int 0)))), (b6, .inl (g.2.1 1, 11, .inl rP))] → lv_has ls 10 [(5, .int (nI j1)), (4, .int 0), (3, .int ((1 : Int32) <<< (y &&& 31))), (0, .ref h0), (1, .int (nI (tN x))), (2, .int y)] → W p l e (RM 2 0 0) s m args below meth c H locs 0 0 Q (F0 m 34 ls []) := by
        intro fu1
        induction fu1 with
        | zero =>
          intro j1 fb54_1 hm1 hj1 hst1
          exact absurd hm1 (by omega)
        | succ fu1 ih1 =>
          intro j1 fb54_1 hm1 hj1 hst1 H locs ls hW hl
          refine lv_iload (pc := 34) hx hb dX12_kept_34 (lv_at hl 0 rfl) ?_
          refine lv_bipush (v := 7) (pc := 36) hx hb dX12_kept_36 (by decide) ?_
          refine lv_icmp_ge (tgt := 55) (pc := 38) hx hb dX12_kept_38 rfl (fun c8 => ?_) (fun c8 => ?_)
          · have h9 : 7 ≤ j1 := (nI_leI (a := 7) (b := j1) (by omega) (by omega)).mp c8
            have hN1 : j1 = 7 := by omega
            rw [hN1] at hst1
            subst hst1
            have hW : WD g A s _ _ [(b7, .inl (g.2.1 1, 11, .inl rL)), (b8, .inl (g.2.1 1, 11, .inl rD)), (b12, .inl (g.2.1 1, 132, .inl rA)), (b13, .inl (g.2.1 1, 132, .inl rB)), (b14, .inl (g.2.1 1, 132, .inl rF)), (b15, .inl (g.2.1 1, 132, .inl rT)), (b16, .inl (g.2.1 1, 132, .inl rW)), (b17, .inl (g.2.1 3, 132, .inl rO)), (b52, .inl (g.2.1 1, 420, .inl cD)), (b53, .inl (g.2.1 1, 77, .inl cL)), (b54, .inl (g.2.1 1, 7, .inl (L1_X12_kept gN 7))), (h0, .inr (12, (vs.set 0 (.int 0)))), (b6, .inl (g.2.1 1, 11, .inl rP))] := hW
            refine lv_iconst (v := 0) (pc := 55) hx hb dX12_kept_55 (by decide) ?_
            refine lv_istore (lv' := [(5, .int 0), (4, .int 0), (3, .int ((1 : Int32) <<< (y &&& 31))), (0, .ref h0), (1, .int (nI (tN x))), (2, .int y)]) (pc := 56) hx hb dX12_kept_56 hl (by decide) rfl (fun ls hl => ?_)
            have loop2 : ∀ (fu2 : Nat) (j2 : Nat) (x4_2 : Int32) (x3_2 : Int32) (fb54_2 : Nat → Int32), (25 < fu2 + j2) → (j2 ≤ 25) → (OKG cL (tN x) fb54_2) → (L2_X12_kept rP rL rD rA rB rF rT rW rO cD cL x fu2 j2 x4_2 x3_2 fb54_2 = F_X12_kept nv rP rL rD rA rB rF rT rW rO cD cL gN x y) → ∀ (H : Heap) (locs : List Loc) (ls : Array Slot), WD g A s H locs [(b7, .inl (g.2.1 1, 11, .inl rL)), (b8, .inl (g.2.1 1, 11, .inl rD)), (b12, .inl (g.2.1 1, 132, .inl rA)), (b13, .inl (g.2.1 1, 132, .inl rB)), (b14, .inl (g.2.1 1, 132, .inl rF)), (b15, .inl (g.2.1 1, 132, .inl rT)), (b16, .inl (g.2.1 1, 132, .inl rW)), (b17, .inl (g.2.1 3, 132, .inl rO)), (b52, .inl (g.2.1 1, 420, .inl cD)), (b53, .inl (g.2.1 1, 77, .inl cL)), (b54, .inl (g.2.1 1, 7, .inl fb54_2)), (h0, .inr (12, (vs.set 0 (.int 0)))), (b6, .inl (g.2.1 1, 11, .inl rP))] → lv_has ls 10 [(5, .int (nI j2)), (4, .int x4_2), (3, .int x3_2), (0, .ref h0), (1, .int (nI (tN x))), (2, .int y)] → W p l e (RM 2 0 0) s m args below meth c H locs 0 0 Q (F0 m 58 ls []) := by
              intro fu2
              induction fu2 with
              | zero =>
                intro j2 x4_2 x3_2 fb54_2 hm2 hj2 hgn2 hst2
                exact absurd hm2 (by omega)
              | succ fu2 ih2 =>
                intro j2 x4_2 x3_2 fb54_2 hm2 hj2 hgn2 hst2 H locs ls hW hl
                refine lv_iload (pc := 58) hx hb dX12_kept_58 (lv_at hl 0 rfl) ?_
                refine lv_bipush (v := 24) (pc := 60) hx hb dX12_kept_60 (by decide) ?_
                refine lv_icmp_gt (tgt := 249) (pc := 62) hx hb dX12_kept_62 rfl (fun c10 => ?_) (fun c10 => ?_)
                · have h11 : 24 < j2 := (nI_ltI (a := 24) (b := j2) (by omega) (by omega)).mp c10
                  refine lv_iconst (v := (-1)) (pc := 249) hx hb dX12_kept_249 (by decide) ?_
                  have hF : F_X12_kept nv rP rL rD rA rB rF rT rW rO cD cL gN x y = ((-1 : Int32), fb54_2) := hst2.symm.trans (show L2_X12_kept rP rL rD rA rB rF rT rW rO cD cL x (fu2 + 1) j2 x4_2 x3_2 fb54_2 = ((-1 : Int32), fb54_2) from by rw [L2_X12_kept, if_pos c10])
                  exact e_i (u := [(h0, .inr (12, (vs.set 0 (.int 0)))), (b6, .inl (g.2.1 1, 11, .inl rP)), (b7, .inl (g.2.1 1, 11, .inl rL)), (b8, .inl (g.2.1 1, 11, .inl rD)), (b12, .inl (g.2.1 1, 132, .inl rA)), (b13, .inl (g.2.1 1, 132, .inl rB)), (b14, .inl (g.2.1 1, 132, .inl rF)), (b15, .inl (g.2.1 1, 132, .inl rT)), (b16, .inl (g.2.1 1, 132, .inl rW)), (b17, .inl (g.2.1 3, 132, .inl rO)), (b52, .inl (g.2.1 1, 420, .inl cD)), (b53, .inl (g.2.1 1, 77, .inl cL)), (b54, .inl (g.2.1 1, 7, .inl fb54_2))]) X hQ hr (hW) [11, 12, 0, 1, 2, 3, 4, 5, 6, 7, 8, 9, 10] rfl rfl (⟨(congrArg Prod.fst hF).symm, by rw [hF]⟩) ⟨Nat.le_of_ble_eq_true rfl, Nat.le_of_ble_eq_true rfl⟩ dX12_kept_250
                · have h12 : ¬ (24 < j2) := fun q => c10 ((nI_ltI (a := 24) (b := j2) (by omega) (by omega)).mpr q)
                  refine lv_iload (pc := 65) hx hb dX12_kept_65 (lv_at hl 0 rfl) ?_
                  refine lv_if_le (tgt := 231) (pc := 67) hx hb dX12_kept_67 rfl (fun c13 => ?_) (fun c13 => ?_)
                  · have h14 : j2 ≤ 0 := (nI_leI (a := j2) (b := 0) (by omega) (by omega)).mp c13
                    refine lv_iload_n (pc := 231) hx hb dX12_kept_231 rfl (lv_at hl 2 rfl) ?_
                    refine lv_aload_n (pc := 232) hx hb dX12_kept_232 rfl (lv_at hl 3 rfl) ?_
                    refine lv_iload_n (pc := 233) hx hb dX12_kept_233 rfl (lv_at hl 4 rfl) ?_
                    refine c_Vi (pc := 234) (As := [.int (nI (tN x))]) (rest := [.int x3_2]) (wr := [(b7, .inl (g.2.1 1, 11, .inl rL)), (b8, .inl (g.2.1 1, 11, .inl rD)), (b12, .inl (g.2.1 1, 132, .inl rA)), (b13, .inl (g.2.1 1, 132, .inl rB)), (b14, .inl (g.2.1 1, 132, .inl rF)), (b15, .inl (g.2.1 1, 132, .inl rT)), (b16, .inl (g.2.1 1, 132, .inl rW)), (b17, .inl (g.2.1 3, 132, .inl rO)), (b52, .inl (g.2.1 1, 420, .inl cD)), (b53, .inl (g.2.1 1, 77, .inl cL)), (b54, .inl (g.2.1 1, 7, .inl fb54_2))]) X hW 11 ciX12 rfl (K_X12_everybody l g h0 (vs.set 0 (.int 0)) b6 rP (tN x) (sv_len hlen) (sv_ne (k := 0) (by decide) h6_) (by omega)) vX12_274 [11, 12] [0, 1, 2, 3, 4, 5, 6, 7, 8, 9, 10] rfl rfl rfl rfl rfl rfl hl.1 rfl (Nat.le_of_ble_eq_true rfl) ⟨Nat.le_of_ble_eq_true rfl, Nat.le_of_ble_eq_true rfl⟩ ⟨Nat.le_of_ble_eq_true rfl, Nat.le_of_ble_eq_true rfl⟩ dX12_kept_234 (fun r15 u9 H locs hq hW => ?_)
                    obtain ⟨rfl, rfl⟩ := hq
                    have hW : WD g A s _ _ [(b7, .inl (g.2.1 1, 11, .inl rL)), (b8, .inl (g.2.1 1, 11, .inl rD)), (b12, .inl (g.2.1 1, 132, .inl rA)), (b13, .inl (g.2.1 1, 132, .inl rB)), (b14, .inl (g.2.1 1, 132, .inl rF)), (b15, .inl (g.2.1 1, 132, .inl rT)), (b16, .inl (g.2.1 1, 132, .inl rW)), (b17, .inl (g.2.1 3, 132, .inl rO)), (b52, .inl (g.2.1 1, 420, .inl cD)), (b53, .inl (g.2.1 1, 77, .inl cL)), (b54, .inl (g.2.1 1, 7, .inl fb54_2)), (h0, .inr (12, (vs.set 0 (.int 0)))), (b6, .inl (g.2.1 1, 11, .inl rP))] := hW
                    refine lv_icmp_ne (tgt := 243) (pc := 237) hx hb dX12_kept_237 rfl (fun c16 => ?_) (fun c16 => ?_)
                    · refine lv_iinc (v := nI (j2 + 1)) (lv' := [(5, .int (nI (j2 + 1))), (4, .int x4_2), (3, .int x3_2), (0, .ref h0), (1, .int (nI (tN x))), (2, .int y)]) (pc := 243) hx hb dX12_kept_243 hl (k := 0) rfl (nI_add j2 1) (by decide) rfl (fun ls hl => ?_)
                      refine lv_goto (tgt := 58) (pc := 246) hx hb dX12_kept_246 rfl ?_
                      exact ih2 (j2 + 1) x4_2 x3_2 fb54_2 (by omega) (by omega) (by first | exact hgm3 | exact hgn2) ((show L2_X12_kept rP rL rD rA rB rF rT rW rO cD cL x (fu2 + 1) j2 x4_2 x3_2 fb54_2 = L2_X12_kept rP rL rD rA rB rF rT rW rO cD cL x fu2 (j2 + 1) x4_2 x3_2 fb54_2 from by rw [L2_X12_kept, if_neg c10, if_pos c13, if_neg c16]).symm.trans hst2) _ _ _ hW (lv_sub hl [0, 1, 2, 3, 4, 5] rfl)
                    · refine lv_iload (pc := 240) hx hb dX12_kept_240 (lv_at hl 0 rfl) ?_
                      have hF : F_X12_kept nv rP rL rD rA rB rF rT rW rO cD cL gN x y = (nI j2, fb54_2) := hst2.symm.trans (show L2_X12_kept rP rL rD rA rB rF rT rW rO cD cL x (fu2 + 1) j2 x4_2 x3_2 fb54_2 = (nI j2, fb54_2) from by rw [L2_X12_kept, if_neg c10, if_pos c13, if_pos c16])
                      exact e_i (u := [(h0, .inr (12, (vs.set 0 (.int 0)))), (b6, .inl (g.2.1 1, 11, .inl rP)), (b7, .inl (g.2.1 1, 11, .inl rL)), (b8, .inl (g.2.1 1, 11, .inl rD)), (b12, .inl (g.2.1 1, 132, .inl rA)), (b13, .inl (g.2.1 1, 132, .inl rB)), (b14, .inl (g.2.1 1, 132, .inl rF)), (b15, .inl (g.2.1 1, 132, .inl rT)), (b16, .inl (g.2.1 1, 132, .inl rW)), (b17, .inl (g.2.1 3, 132, .inl rO)), (b52, .inl (g.2.1 1, 420, .inl cD)), (b53, .inl (g.2.1 1, 77, .inl cL)), (b54, .inl (g.2.1 1, 7, .inl fb54_2))]) X hQ hr (hW) [11, 12, 0, 1, 2, 3, 4, 5, 6, 7, 8, 9, 10] rfl rfl (⟨(congrArg Prod.fst hF).symm, by rw [hF]⟩) ⟨Nat.le_of_ble_eq_true rfl, Nat.le_of_ble_eq_true rfl⟩ dX12_kept_242
                  · have h19 : ¬ (j2 ≤ 0) := fun q => c13 ((nI_leI (a := j2) (b := 0) (by omega) (by omega)).mpr q)
                    refine lv_iconst (v := 0) (pc := 70) hx hb dX12_kept_70 (by decide) ?_
                    refine lv_istore (lv' := [(6, .int 0), (5, .int (nI j2)), (4, .int x4_2), (3, .int x3_2), (0, .ref h0), (1, .int (nI (tN x))), (2, .int y)]) (pc := 71) hx hb dX12_kept_71 hl (by decide) rfl (fun ls hl => ?_)
                    refine lv_iconst (v := 0) (pc := 73) hx hb dX12_kept_73 (by decide) ?_
                    refine lv_istore (lv' := [(7, .int 0), (6, .int 0), (5, .int (nI j2)), (4, .int x4_2), (3, .int x3_2), (0, .ref h0), (1, .int (nI (tN x))), (2, .int y)]) (pc := 74) hx hb dX12_kept_74 hl (by decide) rfl (fun ls hl => ?_)
                    have loop3 : ∀ (fu3 : Nat) (j3 : Nat) (x6_3 : Int32) (fb54_3 : Nat → Int32), ((tN (rP (tN x))) < fu3 + j3) → (j3 ≤ (tN (rP (tN x)))) → (OKG cL (tN x) fb54_3) → ((x6_3, fb54_3) = L3_X12_kept rL rA rB rF rT rW rO cD cL x j2 x3_2 (0 : Int32) fb54_2 j3) → ∀ (H : Heap) (locs : List Loc) (ls : Array Slot), WD g A s H locs [(b7, .inl (g.2.1 1, 11, .inl rL)), (b8, .inl (g.2.1 1, 11, .inl rD)), (b12, .inl (g.2.1 1, 132, .inl rA)), (b13, .inl (g.2.1 1, 132, .inl rB)), (b14, .inl (g.2.1 1, 132, .inl rF)), (b15, .inl (g.2.1 1, 132, .inl rT)), (b16, .inl (g.2.1 1, 132, .inl rW)), (b17, .inl (g.2.1 3, 132, .inl rO)), (b52, .inl (g.2.1 1, 420, .inl cD)), (b53, .inl (g.2.1 1, 77, .inl cL)), (b54, .inl (g.2.1 1, 7, .inl fb54_3)), (h0, .inr (12, (vs.set 0 (.int 0)))), (b6, .inl (g.2.1 1, 11, .inl rP))] → lv_has ls 10 [(7, .int (nI j3)), (6, .int x6_3), (5, .int (nI j2)), (4, .int x4_2), (3, .int x3_2), (0, .ref h0), (1, .int (nI (tN x))), (2, .int y)] → W p l e (RM 2 0 0) s m args below meth c H locs 0 0 Q (F0 m 76 ls []) := by
                      intro fu3
                      induction fu3 with
                      | zero =>
                        intro j3 x6_3 fb54_3 hm3 hj3 hgm3 hst3
                        exact absurd hm3 (by omega)
                      | succ fu3 ih3 =>
                        intro j3 x6_3 fb54_3 hm3 hj3 hgm3 hst3 H locs ls hW hl
                        refine lv_iload (pc := 76) hx hb dX12_kept_76 (lv_at hl 0 rfl) ?_
                        refine lv_aload_n (pc := 78) hx hb dX12_kept_78 rfl (lv_at hl 5 rfl) ?_
                        refine r_get X hW 11 ciX12 6 rfl (by decide) m_1237 rfl (sv_ne (k := 0) (by decide) h6_) dX12_kept_79 ?_
                        refine lv_iload_n (pc := 82) hx hb dX12_kept_82 rfl (lv_at hl 6 rfl) ?_
                        refine r_iald X hW 12 rfl (vp_in_nI (by omega) (by decide)) dX12_kept_83 ?_
                        refine lv_topi (fun v20 ev20 => ?_)
                        obtain rfl : v20 = rP (tN x) := ev20.trans (by rw [nI_clamp (by omega)])
                        rw [hPe.1]
                        refine lv_icmp_ge (tgt := 199) (pc := 84) hx hb dX12_kept_84 rfl (fun c21 => ?_) (fun c21 => ?_)
                        · have h22 : (tN (rP (tN x))) ≤ j3 := (nI_leI (a := (tN (rP (tN x)))) (b := j3) (by omega) (by omega)).mp c21
                          have hN3 : j3 = (tN (rP (tN x))) := by omega
                          rw [hN3] at hst3
                          have hs3_0 : x6_3 = (L3_X12_kept rL rA rB rF rT rW rO cD cL x j2 x3_2 (0 : Int32) fb54_2 (tN (rP (tN x)))).1 := congrArg (fun z => z.1) hst3
                          have hs3_1 : fb54_3 = (L3_X12_kept rL rA rB rF rT rW rO cD cL x j2 x3_2 (0 : Int32) fb54_2 (tN (rP (tN x)))).2 := congrArg (fun z => z.2) hst3
                          clear hst3
                          subst hs3_0
                          subst hs3_1
                          have hW : WD g A s _ _ [(b7, .inl (g.2.1 1, 11, .inl rL)), (b8, .inl (g.2.1 1, 11, .inl rD)), (b12, .inl (g.2.1 1, 132, .inl rA)), (b13, .inl (g.2.1 1, 132, .inl rB)), (b14, .inl (g.2.1 1, 132, .inl rF)), (b15, .inl (g.2.1 1, 132, .inl rT)), (b16, .inl (g.2.1 1, 132, .inl rW)), (b17, .inl (g.2.1 3, 132, .inl rO)), (b52, .inl (g.2.1 1, 420, .inl cD)), (b53, .inl (g.2.1 1, 77, .inl cL)), (b54, .inl (g.2.1 1, 7, .inl ((L3_X12_kept rL rA rB rF rT rW rO cD cL x j2 x3_2 (0 : Int32) fb54_2 (tN (rP (tN x)))).2))), (h0, .inr (12, (vs.set 0 (.int 0)))), (b6, .inl (g.2.1 1, 11, .inl rP))] := hW
                          refine lv_iload (pc := 199) hx hb dX12_kept_199 (lv_at hl 1 rfl) ?_
                          refine lv_iload_n (pc := 201) hx hb dX12_kept_201 rfl (lv_at hl 4 rfl) ?_
                          refine lv_iconst (v := (-1)) (pc := 202) hx hb dX12_kept_202 (by decide) ?_
                          refine lv_ixor (pc := 203) hx hb dX12_kept_203 ?_
                          refine lv_iand (pc := 204) hx hb dX12_kept_204 ?_
                          refine lv_aload_n (pc := 205) hx hb dX12_kept_205 rfl (lv_at hl 5 rfl) ?_
                          refine r_get X hW 11 ciX12 8 rfl (by decide) m_1239 rfl (sv_ne (k := 0) (by decide) h8_) dX12_kept_206 ?_
                          refine lv_iload_n (pc := 209) hx hb dX12_kept_209 rfl (lv_at hl 6 rfl) ?_
                          refine r_iald X hW 1 rfl (vp_in_nI (by omega) (by decide)) dX12_kept_210 ?_
                          refine lv_topi (fun v23 ev23 => ?_)
                          obtain rfl : v23 = rD (tN x) := ev23.trans (by rw [nI_clamp (by omega)])
                          refine lv_iconst (v := (-1)) (pc := 211) hx hb dX12_kept_211 (by decide) ?_
                          refine lv_ixor (pc := 212) hx hb dX12_kept_212 ?_
                          refine lv_iload (pc := 213) hx hb dX12_kept_213 (lv_at hl 3 rfl) ?_
                          refine lv_ior (pc := 215) hx hb dX12_kept_215 ?_
                          refine lv_iand (pc := 216) hx hb dX12_kept_216 ?_
                          refine lv_istore (lv' := [(7, .int ((((L3_X12_kept rL rA rB rF rT rW rO cD cL x j2 x3_2 (0 : Int32) fb54_2 (tN (rP (tN x)))).1) &&& (x3_2 ^^^ (-1 : Int32))) &&& (((rD (tN x)) ^^^ (-1 : Int32)) ||| x4_2))), (6, .int ((L3_X12_kept rL rA rB rF rT rW rO cD cL x j2 x3_2 (0 : Int32) fb54_2 (tN (rP (tN x)))).1)), (5, .int (nI j2)), (4, .int x4_2), (3, .int x3_2), (0, .ref h0), (1, .int (nI (tN x))), (2, .int y)]) (pc := 217) hx hb dX12_kept_217 hl (by decide) rfl (fun ls hl => ?_)
                          refine lv_iload (pc := 219) hx hb dX12_kept_219 (lv_at hl 3 rfl) ?_
                          refine lv_iload (pc := 221) hx hb dX12_kept_221 (lv_at hl 1 rfl) ?_
                          refine lv_ior (pc := 223) hx hb dX12_kept_223 ?_
                          refine lv_istore (lv' := [(4, .int (x4_2 ||| ((L3_X12_kept rL rA rB rF rT rW rO cD cL x j2 x3_2 (0 : Int32) fb54_2 (tN (rP (tN x)))).1))), (7, .int ((((L3_X12_kept rL rA rB rF rT rW rO cD cL x j2 x3_2 (0 : Int32) fb54_2 (tN (rP (tN x)))).1) &&& (x3_2 ^^^ (-1 : Int32))) &&& (((rD (tN x)) ^^^ (-1 : Int32)) ||| x4_2))), (6, .int ((L3_X12_kept rL rA rB rF rT rW rO cD cL x j2 x3_2 (0 : Int32) fb54_2 (tN (rP (tN x)))).1)), (5, .int (nI j2)), (3, .int x3_2), (0, .ref h0), (1, .int (nI (tN x))), (2, .int y)]) (pc := 224) hx hb dX12_kept_224 hl (by decide) rfl (fun ls hl => ?_)
                          refine lv_iload_n (pc := 226) hx hb dX12_kept_226 rfl (lv_at hl 4 rfl) ?_
                          refine lv_iload (pc := 227) hx hb dX12_kept_227 (lv_at hl 1 rfl) ?_
                          refine lv_ior (pc := 229) hx hb dX12_kept_229 ?_
                          refine lv_istore_n (lv' := [(3, .int (x3_2 ||| ((((L3_X12_kept rL rA rB rF rT rW rO cD cL x j2 x3_2 (0 : Int32) fb54_2 (tN (rP (tN x)))).1) &&& (x3_2 ^^^ (-1 : Int32))) &&& (((rD (tN x)) ^^^ (-1 : Int32)) ||| x4_2)))), (4, .int (x4_2 ||| ((L3_X12_kept rL rA rB rF rT rW rO cD cL x j2 x3_2 (0 : Int32) fb54_2 (tN (rP (tN x)))).1))), (7, .int ((((L3_X12_kept rL rA rB rF rT rW rO cD cL x j2 x3_2 (0 : Int32) fb54_2 (tN (rP (tN x)))).1) &&& (x3_2 ^^^ (-1 : Int32))) &&& (((rD (tN x)) ^^^ (-1 : Int32)) ||| x4_2))), (6, .int ((L3_X12_kept rL rA rB rF rT rW rO cD cL x j2 x3_2 (0 : Int32) fb54_2 (tN (rP (tN x)))).1)), (5, .int (nI j2)), (0, .ref h0), (1, .int (nI (tN x))), (2, .int y)]) (pc := 230) hx hb dX12_kept_230 rfl hl (by decide) rfl (fun ls hl => ?_)
                          refine lv_iload_n (pc := 231) hx hb dX12_kept_231 rfl (lv_at hl 0 rfl) ?_
                          refine lv_aload_n (pc := 232) hx hb dX12_kept_232 rfl (lv_at hl 5 rfl) ?_
                          refine lv_iload_n (pc := 233) hx hb dX12_kept_233 rfl (lv_at hl 6 rfl) ?_
                          refine c_Vi (pc := 234) (As := [.int (nI (tN x))]) (rest := [.int (x3_2 ||| ((((L3_X12_kept rL rA rB rF rT rW rO cD cL x j2 x3_2 (0 : Int32) fb54_2 (tN (rP (tN x)))).1) &&& (x3_2 ^^^ (-1 : Int32))) &&& (((rD (tN x)) ^^^ (-1 : Int32)) ||| x4_2)))]) (wr := [(b7, .inl (g.2.1 1, 11, .inl rL)), (b8, .inl (g.2.1 1, 11, .inl rD)), (b12, .inl (g.2.1 1, 132, .inl rA)), (b13, .inl (g.2.1 1, 132, .inl rB)), (b14, .inl (g.2.1 1, 132, .inl rF)), (b15, .inl (g.2.1 1, 132, .inl rT)), (b16, .inl (g.2.1 1, 132, .inl rW)), (b17, .inl (g.2.1 3, 132, .inl rO)), (b52, .inl (g.2.1 1, 420, .inl cD)), (b53, .inl (g.2.1 1, 77, .inl cL)), (b54, .inl (g.2.1 1, 7, .inl ((L3_X12_kept rL rA rB rF rT rW rO cD cL x j2 x3_2 (0 : Int32) fb54_2 (tN (rP (tN x)))).2)))]) X hW 11 ciX12 rfl (K_X12_everybody l g h0 (vs.set 0 (.int 0)) b6 rP (tN x) (sv_len hlen) (sv_ne (k := 0) (by decide) h6_) (by omega)) vX12_274 [11, 12] [0, 1, 2, 3, 4, 5, 6, 7, 8, 9, 10] rfl rfl rfl rfl rfl rfl hl.1 rfl (Nat.le_of_ble_eq_true rfl) ⟨Nat.le_of_ble_eq_true rfl, Nat.le_of_ble_eq_true rfl⟩ ⟨Nat.le_of_ble_eq_true rfl, Nat.le_of_ble_eq_true rfl⟩ dX12_kept_234 (fun r24 u9 H locs hq hW => ?_)
                          obtain ⟨rfl, rfl⟩ := hq
                          have hW : WD g A s _ _ [(b7, .inl (g.2.1 1, 11, .inl rL)), (b8, .inl (g.2.1 1, 11, .inl rD)), (b12, .inl (g.2.1 1, 132, .inl rA)), (b13, .inl (g.2.1 1, 132, .inl rB)), (b14, .inl (g.2.1 1, 132, .inl rF)), (b15, .inl (g.2.1 1, 132, .inl rT)), (b16, .inl (g.2.1 1, 132, .inl rW)), (b17, .inl (g.2.1 3, 132, .inl rO)), (b52, .inl (g.2.1 1, 420, .inl cD)), (b53, .inl (g.2.1 1, 77, .inl cL)), (b54, .inl (g.2.1 1, 7, .inl ((L3_X12_kept rL rA rB rF rT rW rO cD cL x j2 x3_2 (0 : Int32) fb54_2 (tN (rP (tN x)))).2))), (h0, .inr (12, (vs.set 0 (.int 0)))), (b6, .inl (g.2.1 1, 11, .inl rP))] := hW
                          refine lv_icmp_ne (tgt := 243) (pc := 237) hx hb dX12_kept_237 rfl (fun c25 => ?_) (fun c25 => ?_)
                          · refine lv_iinc (v := nI (j2 + 1)) (lv' := [(5, .int (nI (j2 + 1))), (3, .int (x3_2 ||| ((((L3_X12_kept rL rA rB rF rT rW rO cD cL x j2 x3_2 (0 : Int32) fb54_2 (tN (rP (tN x)))).1) &&& (x3_2 ^^^ (-1 : Int32))) &&& (((rD (tN x)) ^^^ (-1 : Int32)) ||| x4_2)))), (4, .int (x4_2 ||| ((L3_X12_kept rL rA rB rF rT rW rO cD cL x j2 x3_2 (0 : Int32) fb54_2 (tN (rP (tN x)))).1))), (7, .int ((((L3_X12_kept rL rA rB rF rT rW rO cD cL x j2 x3_2 (0 : Int32) fb54_2 (tN (rP (tN x)))).1) &&& (x3_2 ^^^ (-1 : Int32))) &&& (((rD (tN x)) ^^^ (-1 : Int32)) ||| x4_2))), (6, .int ((L3_X12_kept rL rA rB rF rT rW rO cD cL x j2 x3_2 (0 : Int32) fb54_2 (tN (rP (tN x)))).1)), (0, .ref h0), (1, .int (nI (tN x))), (2, .int y)]) (pc := 243) hx hb dX12_kept_243 hl (k := 4) rfl (nI_add j2 1) (by decide) rfl (fun ls hl => ?_)
                            refine lv_goto (tgt := 58) (pc := 246) hx hb dX12_kept_246 rfl ?_
                            exact ih2 (j2 + 1) (x4_2 ||| ((L3_X12_kept rL rA rB rF rT rW rO cD cL x j2 x3_2 (0 : Int32) fb54_2 (tN (rP (tN x)))).1)) (x3_2 ||| ((((L3_X12_kept rL rA rB rF rT rW rO cD cL x j2 x3_2 (0 : Int32) fb54_2 (tN (rP (tN x)))).1) &&& (x3_2 ^^^ (-1 : Int32))) &&& (((rD (tN x)) ^^^ (-1 : Int32)) ||| x4_2))) ((L3_X12_kept rL rA rB rF rT rW rO cD cL x j2 x3_2 (0 : Int32) fb54_2 (tN (rP (tN x)))).2) (by omega) (by omega) (by first | exact hgm3 | exact hgn2) ((show L2_X12_kept rP rL rD rA rB rF rT rW rO cD cL x (fu2 + 1) j2 x4_2 x3_2 fb54_2 = L2_X12_kept rP rL rD rA rB rF rT rW rO cD cL x fu2 (j2 + 1) (x4_2 ||| ((L3_X12_kept rL rA rB rF rT rW rO cD cL x j2 x3_2 (0 : Int32) fb54_2 (tN (rP (tN x)))).1)) (x3_2 ||| ((((L3_X12_kept rL rA rB rF rT rW rO cD cL x j2 x3_2 (0 : Int32) fb54_2 (tN (rP (tN x)))).1) &&& (x3_2 ^^^ (-1 : Int32))) &&& (((rD (tN x)) ^^^ (-1 : Int32)) ||| x4_2))) ((L3_X12_kept rL rA rB rF rT rW rO cD cL x j2 x3_2 (0 : Int32) fb54_2 (tN (rP (tN x)))).2) from by rw [L2_X12_kept, if_neg c10, if_neg c13, if_neg c25]).symm.trans hst2) _ _ _ hW (lv_sub hl [0, 2, 1, 5, 6, 7] rfl)
                          · refine lv_iload (pc := 240) hx hb dX12_kept_240 (lv_at hl 4 rfl) ?_
                            have hF : F_X12_kept nv rP rL rD rA rB rF rT rW rO cD cL gN x y = (nI j2, ((L3_X12_kept rL rA rB rF rT rW rO cD cL x j2 x3_2 (0 : Int32) fb54_2 (tN (rP (tN x)))).2)) := hst2.symm.trans (show L2_X12_kept rP rL rD rA rB rF rT rW rO cD cL x (fu2 + 1) j2 x4_2 x3_2 fb54_2 = (nI j2, ((L3_X12_kept rL rA rB rF rT rW rO cD cL x j2 x3_2 (0 : Int32) fb54_2 (tN (rP (tN x)))).2)) from by rw [L2_X12_kept, if_neg c10, if_neg c13, if_pos c25])
                            exact e_i (u := [(h0, .inr (12, (vs.set 0 (.int 0)))), (b6, .inl (g.2.1 1, 11, .inl rP)), (b7, .inl (g.2.1 1, 11, .inl rL)), (b8, .inl (g.2.1 1, 11, .inl rD)), (b12, .inl (g.2.1 1, 132, .inl rA)), (b13, .inl (g.2.1 1, 132, .inl rB)), (b14, .inl (g.2.1 1, 132, .inl rF)), (b15, .inl (g.2.1 1, 132, .inl rT)), (b16, .inl (g.2.1 1, 132, .inl rW)), (b17, .inl (g.2.1 3, 132, .inl rO)), (b52, .inl (g.2.1 1, 420, .inl cD)), (b53, .inl (g.2.1 1, 77, .inl cL)), (b54, .inl (g.2.1 1, 7, .inl ((L3_X12_kept rL rA rB rF rT rW rO cD cL x j2 x3_2 (0 : Int32) fb54_2 (tN (rP (tN x)))).2)))]) X hQ hr (hW) [11, 12, 0, 1, 2, 3, 4, 5, 6, 7, 8, 9, 10] rfl rfl (⟨(congrArg Prod.fst hF).symm, by rw [hF]⟩) ⟨Nat.le_of_ble_eq_true rfl, Nat.le_of_ble_eq_true rfl⟩ dX12_kept_242
                        · have h28 : ¬ ((tN (rP (tN x))) ≤ j3) := fun q => c21 ((nI_leI (a := (tN (rP (tN x)))) (b := j3) (by omega) (by omega)).mpr q)
                          refine lv_bipush (v := 7) (pc := 87) hx hb dX12_kept_87 (by decide) ?_
                          refine lv_iload_n (pc := 89) hx hb dX12_kept_89 rfl (lv_at hl 6 rfl) ?_
                          refine lv_imul (pc := 90) hx hb dX12_kept_90 ?_
                          refine lv_topi (fun v29 ev29 => ?_)
                          obtain rfl : v29 = nI (7 * (tN x)) := ev29.trans (pk_mul 7 (tN x))
                          refine lv_iload (pc := 91) hx hb dX12_kept_91 (lv_at hl 0 rfl) ?_
                          refine lv_iadd (pc := 93) hx hb dX12_kept_93 ?_
                          refine lv_topi (fun v30 ev30 => ?_)
                          obtain rfl : v30 = nI (7 * (tN x) + j3) := ev30.trans (nI_add _ _)
                          refine lv_istore (lv' := [(8, .int (nI (7 * (tN x) + j3))), (7, .int (nI j3)), (6, .int x6_3), (5, .int (nI j2)), (4, .int x4_2), (3, .int x3_2), (0, .ref h0), (1, .int (nI (tN x))), (2, .int y)]) (pc := 94) hx hb dX12_kept_94 hl (by decide) rfl (fun ls hl => ?_)
                          refine lv_iload_n (pc := 96) hx hb dX12_kept_96 rfl (lv_at hl 5 rfl) ?_
                          refine lv_iload (pc := 97) hx hb dX12_kept_97 (lv_at hl 1 rfl) ?_
                          refine lv_ishr (pc := 99) hx hb dX12_kept_99 ?_
                          refine lv_iconst (v := 1) (pc := 100) hx hb dX12_kept_100 (by decide) ?_
                          refine lv_iand (pc := 101) hx hb dX12_kept_101 ?_
                          refine lv_if_eq (tgt := 193) (pc := 102) hx hb dX12_kept_102 rfl (fun c31 => ?_) (fun c31 => ?_)
                          · refine lv_iinc (v := nI (j3 + 1)) (lv' := [(7, .int (nI (j3 + 1))), (8, .int (nI (7 * (tN x) + j3))), (6, .int x6_3), (5, .int (nI j2)), (4, .int x4_2), (3, .int x3_2), (0, .ref h0), (1, .int (nI (tN x))), (2, .int y)]) (pc := 193) hx hb dX12_kept_193 hl (k := 1) rfl (nI_add j3 1) (by decide) rfl (fun ls hl => ?_)
                            refine lv_goto (tgt := 76) (pc := 196) hx hb dX12_kept_196 rfl ?_
                            exact ih3 (j3 + 1) x6_3 fb54_3 (by omega) (by omega) (by first | exact hgm3 | exact okg_up hgm3 (by omega) (by omega)) (by rw [L3_X12_kept, ← hst3]; exact (show L3_X12_kepts rL rA rB rF rT rW rO cD cL x j2 x3_2 j3 x6_3 fb54_3 = (x6_3, fb54_3) from by rw [L3_X12_kepts, if_pos c31]).symm) _ _ _ hW (lv_sub hl [0, 2, 3, 4, 5, 6, 7, 8] rfl)
                          · refine lv_aload_n (pc := 105) hx hb dX12_kept_105 rfl (lv_at hl 6 rfl) ?_
                            refine r_get X hW 11 ciX12 54 rfl (by decide) m_1281 rfl (sv_ne (k := 0) (by decide) h54_) dX12_kept_106 ?_
                            refine lv_iload (pc := 109) hx hb dX12_kept_109 (lv_at hl 1 rfl) ?_
                            refine r_iald X hW 10 rfl (vp_in_nI (by omega) (by decide)) dX12_kept_111 ?_
                            refine lv_topi (fun v34 ev34 => ?_)
                            obtain rfl : v34 = fb54_3 j3 := ev34.trans (by rw [nI_clamp (by omega)])
                            have hgo := hgm3 j3 (by omega)
                            have hgo2 := hgo.2
                            rw [show fb54_3 j3 = nI (tN (fb54_3 j3)) from hgo.1]
                            refine lv_aload_n (pc := 112) hx hb dX12_kept_112 rfl (lv_at hl 6 rfl) ?_
                            refine r_get X hW 11 ciX12 53 rfl (by decide) m_1280 rfl (sv_ne (k := 0) (by decide) h53_) dX12_kept_113 ?_
                            refine lv_iload (pc := 116) hx hb dX12_kept_116 (lv_at hl 0 rfl) ?_
                            refine r_iald X hW 9 rfl (vp_in_nI (by omega) (by decide)) dX12_kept_118 ?_
                            refine lv_topi (fun v35 ev35 => ?_)
                            obtain rfl : v35 = cL (7 * (tN x) + j3) := ev35.trans (by rw [nI_clamp (by omega)])
                            have hcz := hcL (7 * tN x + j3) (by omega)
                            have hcz2 := hcz.2
                            rw [show cL (7 * (tN x) + j3) = nI (tN (cL (7 * (tN x) + j3))) from hcz.1]
                            refine lv_icmp_ne (tgt := 125) (pc := 119) hx hb dX12_kept_119 rfl (fun c36 => ?_) (fun c36 => ?_)
                            · have h37 : ¬ ((tN (fb54_3 j3)) = (tN (cL (7 * (tN x) + j3)))) := fun q => c36 ((nI_eq (a := (tN (fb54_3 j3))) (b := (tN (cL (7 * (tN x) + j3)))) (by omega) (by omega)).mpr q)
                              refine lv_aload_n (pc := 125) hx hb dX12_kept_125 rfl (lv_at hl 6 rfl) ?_
                              refine r_get X hW 11 ciX12 52 rfl (by decide) m_1279 rfl (sv_ne (k := 0) (by decide) h52_) dX12_kept_126 ?_
                              refine lv_bipush (v := 6) (pc := 129) hx hb dX12_kept_129 (by decide) ?_
                              refine lv_iload (pc := 131) hx hb dX12_kept_131 (lv_at hl 0 rfl) ?_
                              refine lv_imul (pc := 133) hx hb dX12_kept_133 ?_
                              refine lv_topi (fun v38 ev38 => ?_)
                              obtain rfl : v38 = nI (6 * (7 * (tN x) + j3)) := ev38.trans (pk_mul 6 (7 * (tN x) + j3))
                              refine lv_aload_n (pc := 134) hx hb dX12_kept_134 rfl (lv_at hl 6 rfl) ?_
                              refine r_get X hW 11 ciX12 54 rfl (by decide) m_1281 rfl (sv_ne (k := 0) (by decide) h54_) dX12_kept_135 ?_
                              refine lv_iload (pc := 138) hx hb dX12_kept_138 (lv_at hl 1 rfl) ?_
                              refine r_iald X hW 10 rfl (vp_in_nI (by omega) (by decide)) dX12_kept_140 ?_
                              refine lv_topi (fun v39 ev39 => ?_)
                              obtain rfl : v39 = fb54_3 j3 := ev39.trans (by rw [nI_clamp (by omega)])
                              have hgo := hgm3 j3 (by omega)
                              have hgo2 := hgo.2
                              rw [show fb54_3 j3 = nI (tN (fb54_3 j3)) from hgo.1]
                              refine lv_iadd (pc := 141) hx hb dX12_kept_141 ?_
                              refine lv_topi (fun v40 ev40 => ?_)
                              obtain rfl : v40 = nI (6 * (7 * (tN x) + j3) + tN (fb54_3 j3)) := ev40.trans (nI_add _ _)
                              refine r_iald X hW 8 rfl (vp_in_nI (by omega) (by decide)) dX12_kept_142 ?_
                              refine lv_topi (fun v41 ev41 => ?_)
                              obtain rfl : v41 = cD (6 * (7 * (tN x) + j3) + tN (fb54_3 j3)) := ev41.trans (by rw [nI_clamp (by omega)])
                              have hdz := hcD (6 * (7 * (tN x) + j3) + tN (fb54_3 j3)) (by omega)
                              have hdz2 := hdz.2
                              rw [show cD (6 * (7 * (tN x) + j3) + tN (fb54_3 j3)) = nI (tN (cD (6 * (7 * (tN x) + j3) + tN (fb54_3 j3)))) from hdz.1]
                              refine lv_istore (lv' := [(9, .int (nI (tN (cD (6 * (7 * (tN x) + j3) + tN (fb54_3 j3)))))), (8, .int (nI (7 * (tN x) + j3))), (7, .int (nI j3)), (6, .int x6_3), (5, .int (nI j2)), (4, .int x4_2), (3, .int x3_2), (0, .ref h0), (1, .int (nI (tN x))), (2, .int y)]) (pc := 143) hx hb dX12_kept_143 hl (by decide) rfl (fun ls hl => ?_)
                              refine lv_iload (pc := 145) hx hb dX12_kept_145 (lv_at hl 3 rfl) ?_
                              refine lv_iload (pc := 147) hx hb dX12_kept_147 (lv_at hl 0 rfl) ?_
                              refine lv_ishr (pc := 149) hx hb dX12_kept_149 ?_
                              refine lv_iconst (v := 1) (pc := 150) hx hb dX12_kept_150 (by decide) ?_
                              refine lv_iand (pc := 151) hx hb dX12_kept_151 ?_
                              refine lv_iconst (v := 1) (pc := 152) hx hb dX12_kept_152 (by decide) ?_
                              refine lv_icmp_eq (tgt := 193) (pc := 153) hx hb dX12_kept_153 rfl (fun c42 => ?_) (fun c42 => ?_)
                              · refine lv_iinc (v := nI (j3 + 1)) (lv' := [(7, .int (nI (j3 + 1))), (9, .int (nI (tN (cD (6 * (7 * (tN x) + j3) + tN (fb54_3 j3)))))), (8, .int (nI (7 * (tN x) + j3))), (6, .int x6_3), (5, .int (nI j2)), (4, .int x4_2), (3, .int x3_2), (0, .ref h0), (1, .int (nI (tN x))), (2, .int y)]) (pc := 193) hx hb dX12_kept_193 hl (k := 2) rfl (nI_add j3 1) (by decide) rfl (fun ls hl => ?_)
                                refine lv_goto (tgt := 76) (pc := 196) hx hb dX12_kept_196 rfl ?_
                                exact ih3 (j3 + 1) x6_3 fb54_3 (by omega) (by omega) (by first | exact hgm3 | exact okg_up hgm3 (by omega) (by omega)) (by rw [L3_X12_kept, ← hst3]; exact (show L3_X12_kepts rL rA rB rF rT rW rO cD cL x j2 x3_2 j3 x6_3 fb54_3 = (x6_3, fb54_3) from by rw [L3_X12_kepts, if_neg c31, if_neg c36, if_pos c42]).symm) _ _ _ hW (lv_sub hl [0, 3, 4, 5, 6, 7, 8, 9] rfl)
                              · refine lv_aload_n (pc := 156) hx hb dX12_kept_156 rfl (lv_at hl 7 rfl) ?_
                                refine lv_iload_n (pc := 157) hx hb dX12_kept_157 rfl (lv_at hl 8 rfl) ?_
                                refine lv_iload (pc := 158) hx hb dX12_kept_158 (lv_at hl 2 rfl) ?_
                                refine lv_iload (pc := 160) hx hb dX12_kept_160 (lv_at hl 0 rfl) ?_
                                refine lv_iload (pc := 162) hx hb dX12_kept_162 (lv_at hl 4 rfl) ?_
                                refine c_Vi (pc := 164) (As := [.int (nI (tN x)), .int (nI j3), .int (nI (tN (cD (6 * (7 * (tN x) + j3) + tN (fb54_3 j3))))), .int (nI j2)]) (rest := []) (wr := [(b8, .inl (g.2.1 1, 11, .inl rD)), (b52, .inl (g.2.1 1, 420, .inl cD)), (b53, .inl (g.2.1 1, 77, .inl cL)), (b54, .inl (g.2.1 1, 7, .inl fb54_3)), (b6, .inl (g.2.1 1, 11, .inl rP))]) X hW 11 ciX12 rfl (K_X12_mayCall l g h0 (vs.set 0 (.int 0)) b7 rL b12 rA b13 rB b14 rF b15 rT b16 rW b17 rO (tN (rL (tN x))) (tN x) j3 (tN (cD (6 * (7 * (tN x) + j3) + tN (fb54_3 j3)))) (nI j2) (sv_len hlen) (sv_ne (k := 0) (by decide) h7_) (sv_ne (k := 0) (by decide) h12_) (sv_ne (k := 0) (by decide) h13_) (sv_ne (k := 0) (by decide) h14_) (sv_ne (k := 0) (by decide) h15_) (sv_ne (k := 0) (by decide) h16_) (sv_ne (k := 0) (by decide) h17_) (sv_ne (k := 0) (by decide) h19_) (sv_ne (k := 0) (by decide) h20_) (by omega) (by omega) (by omega) hL12.2 hL12.1) vX12_240 [11, 0, 2, 3, 4, 5, 6, 7] [1, 8, 9, 10, 12] rfl rfl rfl rfl rfl rfl hl.1 rfl (Nat.le_of_ble_eq_true rfl) ⟨Nat.le_of_ble_eq_true rfl, Nat.le_of_ble_eq_true rfl⟩ ⟨Nat.le_of_ble_eq_true rfl, Nat.le_of_ble_eq_true rfl⟩ dX12_kept_164 (fun r45 u9 H locs hq hW => ?_)
                                obtain ⟨rfl, rfl⟩ := hq
                                have hW : WD g A s _ _ [(b8, .inl (g.2.1 1, 11, .inl rD)), (b52, .inl (g.2.1 1, 420, .inl cD)), (b53, .inl (g.2.1 1, 77, .inl cL)), (b54, .inl (g.2.1 1, 7, .inl fb54_3)), (b6, .inl (g.2.1 1, 11, .inl rP)), (h0, .inr (12, (vs.set 0 (.int 0)))), (b7, .inl (g.2.1 1, 11, .inl rL)), (b12, .inl (g.2.1 1, 132, .inl rA)), (b13, .inl (g.2.1 1, 132, .inl rB)), (b14, .inl (g.2.1 1, 132, .inl rF)), (b15, .inl (g.2.1 1, 132, .inl rT)), (b16, .inl (g.2.1 1, 132, .inl rW)), (b17, .inl (g.2.1 3, 132, .inl rO))] := hW
                                refine lv_if_ne (tgt := 173) (pc := 167) hx hb dX12_kept_167 rfl (fun c46 => ?_) (fun c46 => ?_)
                                · refine lv_iload (pc := 173) hx hb dX12_kept_173 (lv_at hl 3 rfl) ?_
                                  refine lv_iconst (v := 1) (pc := 175) hx hb dX12_kept_175 (by decide) ?_
                                  refine lv_iload (pc := 176) hx hb dX12_kept_176 (lv_at hl 0 rfl) ?_
                                  refine lv_ishl (pc := 178) hx hb dX12_kept_178 ?_
                                  refine lv_ior (pc := 179) hx hb dX12_kept_179 ?_
                                  refine lv_istore (lv' := [(6, .int (x6_3 ||| ((1 : Int32) <<< ((nI (tN (cD (6 * (7 * (tN x) + j3) + tN (fb54_3 j3))))) &&& 31)))), (9, .int (nI (tN (cD (6 * (7 * (tN x) + j3) + tN (fb54_3 j3)))))), (8, .int (nI (7 * (tN x) + j3))), (7, .int (nI j3)), (5, .int (nI j2)), (4, .int x4_2), (3, .int x3_2), (0, .ref h0), (1, .int (nI (tN x))), (2, .int y)]) (pc := 180) hx hb dX12_kept_180 hl (by decide) rfl (fun ls hl => ?_)
                                  refine lv_aload_n (pc := 182) hx hb dX12_kept_182 rfl (lv_at hl 7 rfl) ?_
                                  refine r_get X hW 5 ciX12 54 rfl (by decide) m_1281 rfl (sv_ne (k := 0) (by decide) h54_) dX12_kept_183 ?_
                                  refine lv_iload (pc := 186) hx hb dX12_kept_186 (lv_at hl 3 rfl) ?_
                                  refine lv_dup2_11 (pc := 188) hx hb dX12_kept_188 rfl rfl ?_
                                  refine r_iald X hW 3 rfl (vp_in_nI (by omega) (by decide)) dX12_kept_189 ?_
                                  refine lv_topi (fun v48 ev48 => ?_)
                                  obtain rfl : v48 = fb54_3 j3 := ev48.trans (by rw [nI_clamp (by omega)])
                                  have hgo := hgm3 j3 (by omega)
                                  have hgo2 := hgo.2
                                  rw [show fb54_3 j3 = nI (tN (fb54_3 j3)) from hgo.1]
                                  refine lv_iconst (v := 1) (pc := 190) hx hb dX12_kept_190 (by decide) ?_
                                  refine lv_iadd (pc := 191) hx hb dX12_kept_191 ?_
                                  refine lv_topi (fun v49 ev49 => ?_)
                                  obtain rfl : v49 = nI (tN (fb54_3 j3) + 1) := ev49.trans (nI_add (tN (fb54_3 j3)) 1)
                                  refine r_iast (ws' := [(b8, .inl (g.2.1 1, 11, .inl rD)), (b52, .inl (g.2.1 1, 420, .inl cD)), (b53, .inl (g.2.1 1, 77, .inl cL)), (b54, .inl (g.2.1 1, 7, .inl (upd fb54_3 j3 (nI (tN (fb54_3 j3) + 1))))), (b6, .inl (g.2.1 1, 11, .inl rP)), (h0, .inr (12, (vs.set 0 (.int 0)))), (b7, .inl (g.2.1 1, 11, .inl rL)), (b12, .inl (g.2.1 1, 132, .inl rA)), (b13, .inl (g.2.1 1, 132, .inl rB)), (b14, .inl (g.2.1 1, 132, .inl rF)), (b15, .inl (g.2.1 1, 132, .inl rT)), (b16, .inl (g.2.1 1, 132, .inl rW)), (b17, .inl (g.2.1 3, 132, .inl rO))]) X hW 3 rfl (vp_in_nI (by omega) (by decide)) (f' := (upd fb54_3 j3 (nI (tN (fb54_3 j3) + 1)))) (by rw [nI_clamp (by omega)]) rfl dX12_kept_192 (fun H locs hW => ?_)
                                  refine lv_iinc (v := nI (j3 + 1)) (lv' := [(7, .int (nI (j3 + 1))), (6, .int (x6_3 ||| ((1 : Int32) <<< ((nI (tN (cD (6 * (7 * (tN x) + j3) + tN (fb54_3 j3))))) &&& 31)))), (9, .int (nI (tN (cD (6 * (7 * (tN x) + j3) + tN (fb54_3 j3)))))), (8, .int (nI (7 * (tN x) + j3))), (5, .int (nI j2)), (4, .int x4_2), (3, .int x3_2), (0, .ref h0), (1, .int (nI (tN x))), (2, .int y)]) (pc := 193) hx hb dX12_kept_193 hl (k := 3) rfl (nI_add j3 1) (by decide) rfl (fun ls hl => ?_)
                                  refine lv_goto (tgt := 76) (pc := 196) hx hb dX12_kept_196 rfl ?_
                                  have hW : WD g A s _ _ [(b7, .inl (g.2.1 1, 11, .inl rL)), (b8, .inl (g.2.1 1, 11, .inl rD)), (b12, .inl (g.2.1 1, 132, .inl rA)), (b13, .inl (g.2.1 1, 132, .inl rB)), (b14, .inl (g.2.1 1, 132, .inl rF)), (b15, .inl (g.2.1 1, 132, .inl rT)), (b16, .inl (g.2.1 1, 132, .inl rW)), (b17, .inl (g.2.1 3, 132, .inl rO)), (b52, .inl (g.2.1 1, 420, .inl cD)), (b53, .inl (g.2.1 1, 77, .inl cL)), (b54, .inl (g.2.1 1, 7, .inl (upd fb54_3 j3 (nI (tN (fb54_3 j3) + 1))))), (h0, .inr (12, (vs.set 0 (.int 0)))), (b6, .inl (g.2.1 1, 11, .inl rP))] := hW.pick [6, 0, 7, 8, 9, 10, 11, 12, 1, 2, 3, 5, 4] rfl rfl
                                  exact ih3 (j3 + 1) (x6_3 ||| ((1 : Int32) <<< ((nI (tN (cD (6 * (7 * (tN x) + j3) + tN (fb54_3 j3))))) &&& 31))) (upd fb54_3 j3 (nI (tN (fb54_3 j3) + 1))) (by omega) (by omega) (by first | exact hgm3 | exact okg_up hgm3 (by omega) (by omega)) (by rw [L3_X12_kept, ← hst3]; exact (show L3_X12_kepts rL rA rB rF rT rW rO cD cL x j2 x3_2 j3 x6_3 fb54_3 = (x6_3 ||| ((1 : Int32) <<< ((nI (tN (cD (6 * (7 * (tN x) + j3) + tN (fb54_3 j3))))) &&& 31)), (upd fb54_3 j3 (nI (tN (fb54_3 j3) + 1)))) from by rw [L3_X12_kepts, if_neg c31, if_neg c36, if_neg c42, if_neg c46]).symm) _ _ _ hW (lv_sub hl [0, 1, 4, 5, 6, 7, 8, 9] rfl)
                                · refine lv_goto (tgt := 193) (pc := 170) hx hb dX12_kept_170 rfl ?_
                                  refine lv_iinc (v := nI (j3 + 1)) (lv' := [(7, .int (nI (j3 + 1))), (9, .int (nI (tN (cD (6 * (7 * (tN x) + j3) + tN (fb54_3 j3)))))), (8, .int (nI (7 * (tN x) + j3))), (6, .int x6_3), (5, .int (nI j2)), (4, .int x4_2), (3, .int x3_2), (0, .ref h0), (1, .int (nI (tN x))), (2, .int y)]) (pc := 193) hx hb dX12_kept_193 hl (k := 2) rfl (nI_add j3 1) (by decide) rfl (fun ls hl => ?_)
                                  refine lv_goto (tgt := 76) (pc := 196) hx hb dX12_kept_196 rfl ?_
                                  have hW : WD g A s _ _ [(b7, .inl (g.2.1 1, 11, .inl rL)), (b8, .inl (g.2.1 1, 11, .inl rD)), (b12, .inl (g.2.1 1, 132, .inl rA)), (b13, .inl (g.2.1 1, 132, .inl rB)), (b14, .inl (g.2.1 1, 132, .inl rF)), (b15, .inl (g.2.1 1, 132, .inl rT)), (b16, .inl (g.2.1 1, 132, .inl rW)), (b17, .inl (g.2.1 3, 132, .inl rO)), (b52, .inl (g.2.1 1, 420, .inl cD)), (b53, .inl (g.2.1 1, 77, .inl cL)), (b54, .inl (g.2.1 1, 7, .inl fb54_3)), (h0, .inr (12, (vs.set 0 (.int 0)))), (b6, .inl (g.2.1 1, 11, .inl rP))] := hW.pick [6, 0, 7, 8, 9, 10, 11, 12, 1, 2, 3, 5, 4] rfl rfl
                                  exact ih3 (j3 + 1) x6_3 fb54_3 (by omega) (by omega) (by first | exact hgm3 | exact okg_up hgm3 (by omega) (by omega)) (by rw [L3_X12_kept, ← hst3]; exact (show L3_X12_kepts rL rA rB rF rT rW rO cD cL x j2 x3_2 j3 x6_3 fb54_3 = (x6_3, fb54_3) from by rw [L3_X12_kepts, if_neg c31, if_neg c36, if_neg c42, if_pos c46]).symm) _ _ _ hW (lv_sub hl [0, 3, 4, 5, 6, 7, 8, 9] rfl)
                            · have h51 : (tN (fb54_3 j3)) = (tN (cL (7 * (tN x) + j3))) := (nI_eq (a := (tN (fb54_3 j3))) (b := (tN (cL (7 * (tN x) + j3)))) (by omega) (by omega)).mp c36
                              refine lv_goto (tgt := 193) (pc := 122) hx hb dX12_kept_122 rfl ?_
                              refine lv_iinc (v := nI (j3 + 1)) (lv' := [(7, .int (nI (j3 + 1))), (8, .int (nI (7 * (tN x) + j3))), (6, .int x6_3), (5, .int (nI j2)), (4, .int x4_2), (3, .int x3_2), (0, .ref h0), (1, .int (nI (tN x))), (2, .int y)]) (pc := 193) hx hb dX12_kept_193 hl (k := 1) rfl (nI_add j3 1) (by decide) rfl (fun ls hl => ?_)
                              refine lv_goto (tgt := 76) (pc := 196) hx hb dX12_kept_196 rfl ?_
                              exact ih3 (j3 + 1) x6_3 fb54_3 (by omega) (by omega) (by first | exact hgm3 | exact okg_up hgm3 (by omega) (by omega)) (by rw [L3_X12_kept, ← hst3]; exact (show L3_X12_kepts rL rA rB rF rT rW rO cD cL x j2 x3_2 j3 x6_3 fb54_3 = (x6_3, fb54_3) from by rw [L3_X12_kepts, if_neg c31, if_pos c36]).symm) _ _ _ hW (lv_sub hl [0, 2, 3, 4, 5, 6, 7, 8] rfl)
                    exact loop3 ((tN (rP (tN x))) + 1) 0 (0 : Int32) fb54_2 (by omega) (by omega) hgn2 rfl _ _ _ hW (lv_sub hl [0, 1, 2, 3, 4, 5, 6, 7] rfl)
            exact loop2 (25 + 1) 0 (0 : Int32) ((1 : Int32) <<< (y &&& 31)) (L1_X12_kept gN 7) (by omega) (by omega) (okg_0 (fun j hj => kz_at 7 j hj)) (show F_X12_kept nv rP rL rD rA rB rF rT rW rO cD cL gN x y = L2_X12_kept rP rL rD rA rB rF rT rW rO cD cL x (25 + 1) 0 (0 : Int32) ((1 : Int32) <<< (y &&& 31)) (L1_X12_kept gN 7) from by rw [F_X12_kept, if_neg c2, if_neg c6]).symm _ _ _ hW (lv_sub hl [0, 1, 2, 3, 4, 5] rfl)
          · have h52 : ¬ (7 ≤ j1) := fun q => c8 ((nI_leI (a := 7) (b := j1) (by omega) (by omega)).mpr q)
            refine lv_aload_n (pc := 41) hx hb dX12_kept_41 rfl (lv_at hl 3 rfl) ?_
            refine r_get X hW 11 ciX12 54 rfl (by decide) m_1281 rfl (sv_ne (k := 0) (by decide) h54_) dX12_kept_42 ?_
            refine lv_iload (pc := 45) hx hb dX12_kept_45 (lv_at hl 0 rfl) ?_
            refine lv_iconst (v := 0) (pc := 47) hx hb dX12_kept_47 (by decide) ?_
            refine r_iast (ws' := [(b7, .inl (g.2.1 1, 11, .inl rL)), (b8, .inl (g.2.1 1, 11, .inl rD)), (b12, .inl (g.2.1 1, 132, .inl rA)), (b13, .inl (g.2.1 1, 132, .inl rB)), (b14, .inl (g.2.1 1, 132, .inl rF)), (b15, .inl (g.2.1 1, 132, .inl rT)), (b16, .inl (g.2.1 1, 132, .inl rW)), (b17, .inl (g.2.1 3, 132, .inl rO)), (b52, .inl (g.2.1 1, 420, .inl cD)), (b53, .inl (g.2.1 1, 77, .inl cL)), (b54, .inl (g.2.1 1, 7, .inl (upd fb54_1 j1 (0 : Int32)))), (h0, .inr (12, (vs.set 0 (.int 0)))), (b6, .inl (g.2.1 1, 11, .inl rP))]) X hW 10 rfl (vp_in_nI (by omega) (by decide)) (f' := (upd fb54_1 j1 (0 : Int32))) (by rw [nI_clamp (by omega)]) rfl dX12_kept_48 (fun H locs hW => ?_)
            refine lv_iinc (v := nI (j1 + 1)) (lv' := [(5, .int (nI (j1 + 1))), (4, .int 0), (3, .int ((1 : Int32) <<< (y &&& 31))), (0, .ref h0), (1, .int (nI (tN x))), (2, .int y)]) (pc := 49) hx hb dX12_kept_49 hl (k := 0) rfl (nI_add j1 1) (by decide) rfl (fun ls hl => ?_)
            refine lv_goto (tgt := 34) (pc := 52) hx hb dX12_kept_52 rfl ?_
            exact ih1 (j1 + 1) (upd fb54_1 j1 (0 : Int32)) (by omega) (by omega) (by rw [L1_X12_kept, ← hst1]; exact (show L1_X12_kepts  j1 fb54_1 = (upd fb54_1 j1 (0 : Int32)) from rfl).symm) _ _ _ hW (lv_sub hl [0, 1, 2, 3, 4, 5] rfl)
      exact loop1 (7 + 1) 0 gN (by omega) (by omega) rfl _ _ _ hW (lv_sub hl [0, 1, 2, 3, 4, 5] rfl)
    · refine lv_iconst (v := (-1)) (pc := 22) hx hb dX12_kept_22 (by decide) ?_
      have hF : F_X12_kept nv rP rL rD rA rB rF rT rW rO cD cL gN x y = ((-1 : Int32), gN) := show F_X12_kept nv rP rL rD rA rB rF rT rW rO cD cL gN x y = ((-1 : Int32), gN) from by rw [F_X12_kept, if_neg c2, if_pos c6]
      exact e_i (u := [(h0, .inr (12, (vs.set 0 (.int 0)))), (b6, .inl (g.2.1 1, 11, .inl rP)), (b7, .inl (g.2.1 1, 11, .inl rL)), (b8, .inl (g.2.1 1, 11, .inl rD)), (b12, .inl (g.2.1 1, 132, .inl rA)), (b13, .inl (g.2.1 1, 132, .inl rB)), (b14, .inl (g.2.1 1, 132, .inl rF)), (b15, .inl (g.2.1 1, 132, .inl rT)), (b16, .inl (g.2.1 1, 132, .inl rW)), (b17, .inl (g.2.1 3, 132, .inl rO)), (b52, .inl (g.2.1 1, 420, .inl cD)), (b53, .inl (g.2.1 1, 77, .inl cL)), (b54, .inl (g.2.1 1, 7, .inl gN))]) X hQ hr (hW) [11, 12, 0, 1, 2, 3, 4, 5, 6, 7, 8, 9, 10] rfl rfl (⟨(congrArg Prod.fst hF).symm, by rw [hF]⟩) ⟨Nat.le_of_ble_eq_true rfl, Nat.le_of_ble_eq_true rfl⟩ dX12_kept_23

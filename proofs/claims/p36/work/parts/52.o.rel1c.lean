theorem dX12_valley_23 : decode cX12_valley 23 = .ok (.aload_n 0, 1) := DX12_valley _ _ _ rfl
theorem dX12_valley_24 : decode cX12_valley 24 = .ok (.iconst 0, 1) := DX12_valley _ _ _ rfl
theorem dX12_valley_25 : decode cX12_valley 25 = .ok (.putfield 163, 3) := DX12_valley _ _ _ rfl
theorem dX12_valley_28 : decode cX12_valley 28 = .ok (.iconst 0, 1) := DX12_valley _ _ _ rfl
theorem dX12_valley_29 : decode cX12_valley 29 = .ok (.istore_n 1, 1) := DX12_valley _ _ _ rfl
theorem dX12_valley_30 : decode cX12_valley 30 = .ok (.iload_n 1, 1) := DX12_valley _ _ _ rfl
theorem dX12_valley_31 : decode cX12_valley 31 = .ok (.bipush 7, 2) := DX12_valley _ _ _ rfl
theorem dX12_valley_33 : decode cX12_valley 33 = .ok (.if_icmp .ge 24, 3) := DX12_valley _ _ _ rfl
theorem dX12_valley_57 : decode cX12_valley 57 = .ok (.iconst 0, 1) := DX12_valley _ _ _ rfl
theorem dX12_valley_58 : decode cX12_valley 58 = .ok (.istore_n 1, 1) := DX12_valley _ _ _ rfl
theorem dX12_valley_59 : decode cX12_valley 59 = .ok (.iload_n 1, 1) := DX12_valley _ _ _ rfl
theorem dX12_valley_60 : decode cX12_valley 60 = .ok (.bipush 28, 2) := DX12_valley _ _ _ rfl
theorem dX12_valley_62 : decode cX12_valley 62 = .ok (.if_icmp .ge 24, 3) := DX12_valley _ _ _ rfl
theorem dX12_valley_86 : decode cX12_valley 86 = .ok (.aload_n 0, 1) := DX12_valley _ _ _ rfl
theorem dX12_valley_87 : decode cX12_valley 87 = .ok (.dup, 1) := DX12_valley _ _ _ rfl
theorem dX12_valley_88 : decode cX12_valley 88 = .ok (.getfield 212, 3) := DX12_valley _ _ _ rfl
theorem dX12_valley_91 : decode cX12_valley 91 = .ok (.iconst 1, 1) := DX12_valley _ _ _ rfl
theorem dX12_valley_92 : decode cX12_valley 92 = .ok (.iadd, 1) := DX12_valley _ _ _ rfl
theorem dX12_valley_93 : decode cX12_valley 93 = .ok (.putfield 212, 3) := DX12_valley _ _ _ rfl
theorem dX12_valley_96 : decode cX12_valley 96 = .ok (.aload_n 0, 1) := DX12_valley _ _ _ rfl
theorem dX12_valley_97 : decode cX12_valley 97 = .ok (.getfield 212, 3) := DX12_valley _ _ _ rfl
theorem dX12_valley_100 : decode cX12_valley 100 = .ok (.iconst 1, 1) := DX12_valley _ _ _ rfl
theorem dX12_valley_101 : decode cX12_valley 101 = .ok (.isub, 1) := DX12_valley _ _ _ rfl
theorem dX12_valley_102 : decode cX12_valley 102 = .ok (.ireturn, 1) := DX12_valley _ _ _ rfl
theorem dX12_valley_65 : decode cX12_valley 65 = .ok (.aload_n 0, 1) := DX12_valley _ _ _ rfl
theorem dX12_valley_66 : decode cX12_valley 66 = .ok (.getfield 151, 3) := DX12_valley _ _ _ rfl
theorem dX12_valley_69 : decode cX12_valley 69 = .ok (.bipush 28, 2) := DX12_valley _ _ _ rfl
theorem dX12_valley_71 : decode cX12_valley 71 = .ok (.aload_n 0, 1) := DX12_valley _ _ _ rfl
theorem dX12_valley_72 : decode cX12_valley 72 = .ok (.getfield 212, 3) := DX12_valley _ _ _ rfl
theorem dX12_valley_75 : decode cX12_valley 75 = .ok (.imul, 1) := DX12_valley _ _ _ rfl
theorem dX12_valley_76 : decode cX12_valley 76 = .ok (.iload_n 1, 1) := DX12_valley _ _ _ rfl
theorem dX12_valley_77 : decode cX12_valley 77 = .ok (.iadd, 1) := DX12_valley _ _ _ rfl
theorem dX12_valley_78 : decode cX12_valley 78 = .ok (.iconst (-1), 1) := DX12_valley _ _ _ rfl
theorem dX12_valley_79 : decode cX12_valley 79 = .ok (.iastore, 1) := DX12_valley _ _ _ rfl
theorem dX12_valley_80 : decode cX12_valley 80 = .ok (.iinc 1 1, 3) := DX12_valley _ _ _ rfl
theorem dX12_valley_83 : decode cX12_valley 83 = .ok (.goto (-24), 3) := DX12_valley _ _ _ rfl
theorem dX12_valley_36 : decode cX12_valley 36 = .ok (.aload_n 0, 1) := DX12_valley _ _ _ rfl
theorem dX12_valley_37 : decode cX12_valley 37 = .ok (.getfield 126, 3) := DX12_valley _ _ _ rfl
theorem dX12_valley_40 : decode cX12_valley 40 = .ok (.bipush 7, 2) := DX12_valley _ _ _ rfl
theorem dX12_valley_42 : decode cX12_valley 42 = .ok (.aload_n 0, 1) := DX12_valley _ _ _ rfl
theorem dX12_valley_43 : decode cX12_valley 43 = .ok (.getfield 212, 3) := DX12_valley _ _ _ rfl
theorem dX12_valley_46 : decode cX12_valley 46 = .ok (.imul, 1) := DX12_valley _ _ _ rfl
theorem dX12_valley_47 : decode cX12_valley 47 = .ok (.iload_n 1, 1) := DX12_valley _ _ _ rfl
theorem dX12_valley_48 : decode cX12_valley 48 = .ok (.iadd, 1) := DX12_valley _ _ _ rfl
theorem dX12_valley_49 : decode cX12_valley 49 = .ok (.iconst 0, 1) := DX12_valley _ _ _ rfl
theorem dX12_valley_50 : decode cX12_valley 50 = .ok (.iastore, 1) := DX12_valley _ _ _ rfl
theorem dX12_valley_51 : decode cX12_valley 51 = .ok (.iinc 1 1, 3) := DX12_valley _ _ _ rfl
theorem dX12_valley_54 : decode cX12_valley 54 = .ok (.goto (-24), 3) := DX12_valley _ _ _ rfl
def L2_X12_valley1s (v : Nat) (j2 : Nat) (fb61_2 : Nat → Int32) : (Nat → Int32) := (upd fb61_2 (28 * v + j2) (-1 : Int32))
def L2_X12_valley1 (v : Nat) (i0_ : Nat → Int32) : Nat → (Nat → Int32)
  | 0 => (i0_)
  | k_ + 1 => L2_X12_valley1s v k_ (L2_X12_valley1 v i0_ k_)
def L1_X12_valley1s (v : Nat) (j1 : Nat) (fb53_1 : Nat → Int32) : (Nat → Int32) := (upd fb53_1 (7 * v + j1) (0 : Int32))
def L1_X12_valley1 (v : Nat) (i0_ : Nat → Int32) : Nat → (Nat → Int32)
  | 0 => (i0_)
  | k_ + 1 => L1_X12_valley1s v k_ (L1_X12_valley1 v i0_ k_)
def F_X12_valley1 (v : Nat) (cL : Nat → Int32) (tA : Nat → Int32) : Int32 × (Nat → Int32) × (Nat → Int32) := (nI (v + 1 - 1), (L1_X12_valley1 v cL 7), (L2_X12_valley1 v tA 28))
set_option maxHeartbeats 4000000 in
set_option maxRecDepth 100000 in
theorem K_X12_valley1 (l : Launch) (g : GG) (h0 : Nat) (vs : List Value) (b1 : Nat) (b6 : Nat) (b7 : Nat) (b8 : Nat) (b9 : Nat) (b10 : Nat) (b11 : Nat) (b12 : Nat) (b13 : Nat) (b14 : Nat) (b15 : Nat) (b16 : Nat) (b17 : Nat) (rtp : Nat → Int32) (n0 : Nat) (v : Nat) (P9 : Nat → Int32) (S9 : RTX) (b53 : Nat) (cL : Nat → Int32) (b61 : Nat) (tA : Nat → Int32) (hk : KV64 vs) (hn0 : n0 ≤ 400) (hv : v ≤ 10) (h2_ : vs[2]? = some (.int (nI n0))) (h5_ : vs[5]? = some (.int S9.2.1)) (h18_ : vs[18]? = some (.int (nI v))) (h1_ : vs[1]? = some (.ref b1)) (h6_ : vs[6]? = some (.ref b6)) (h7_ : vs[7]? = some (.ref b7)) (h8_ : vs[8]? = some (.ref b8)) (h9_ : vs[9]? = some (.ref b9)) (h10_ : vs[10]? = some (.ref b10)) (h11_ : vs[11]? = some (.ref b11)) (h12_ : vs[12]? = some (.ref b12)) (h13_ : vs[13]? = some (.ref b13)) (h14_ : vs[14]? = some (.ref b14)) (h15_ : vs[15]? = some (.ref b15)) (h16_ : vs[16]? = some (.ref b16)) (h17_ : vs[17]? = some (.ref b17)) (h53_ : vs[53]? = some (.ref b53)) (h61_ : vs[61]? = some (.ref b61)) (hv9 : v < 10) (hgood : ¬ (rdv n0 (ub rtp) v P9 S9).1 = 0) : MetI l g yX12_valley cX12_valley 2 (some .int) 6 0 0 [.ref h0] [(h0, .inr (12, vs)), (b1, .inl (g.2.1 0, 400, .inl rtp)), (b6, .inl (g.2.1 1, 11, .inl (P9))), (b7, .inl (g.2.1 1, 11, .inl (S9.2.2.1))), (b8, .inl (g.2.1 1, 11, .inl (S9.2.2.2.1))), (b9, .inl (g.2.1 1, 44, .inl (S9.2.2.2.2.1))), (b10, .inl (g.2.1 1, 44, .inl (S9.2.2.2.2.2.1))), (b11, .inl (g.2.1 1, 44, .inl (S9.2.2.2.2.2.2.1))), (b12, .inl (g.2.1 1, 132, .inl (S9.2.2.2.2.2.2.2.1))), (b13, .inl (g.2.1 1, 132, .inl (S9.2.2.2.2.2.2.2.2.1))), (b14, .inl (g.2.1 1, 132, .inl (S9.2.2.2.2.2.2.2.2.2.1))), (b15, .inl (g.2.1 1, 132, .inl (S9.2.2.2.2.2.2.2.2.2.2.1))), (b16, .inl (g.2.1 1, 132, .inl (S9.2.2.2.2.2.2.2.2.2.2.2.1))), (b17, .inl (g.2.1 3, 132, .inl (S9.2.2.2.2.2.2.2.2.2.2.2.2))), (b53, .inl (g.2.1 1, 77, .inl cL)), (b61, .inl (g.2.1 1, 308, .inl tA))] (fun r u => r = (F_X12_valley1 v cL tA).1 ∧ u = [(h0, .inr (12, ((((((vs.set 0 (.int 0)).set 3 (.int (nI (rdv n0 (ub rtp) v P9 S9).2.2.2.1))).set 4 (.int ((rdv n0 (ub rtp) v P9 S9).2.1))).set 5 (.int ((rdv n0 (ub rtp) v P9 S9).2.2.2.2.1))).set 2 (.int 0)).set 18 (.int (nI (v + 1)))))), (b1, .inl (g.2.1 0, 400, .inl rtp)), (b6, .inl (g.2.1 1, 11, .inl ((rdv n0 (ub rtp) v P9 S9).2.2.1))), (b7, .inl (g.2.1 1, 11, .inl ((rdv n0 (ub rtp) v P9 S9).2.2.2.2.2.1))), (b8, .inl (g.2.1 1, 11, .inl ((rdv n0 (ub rtp) v P9 S9).2.2.2.2.2.2.1))), (b9, .inl (g.2.1 1, 44, .inl ((rdv n0 (ub rtp) v P9 S9).2.2.2.2.2.2.2.1))), (b10, .inl (g.2.1 1, 44, .inl ((rdv n0 (ub rtp) v P9 S9).2.2.2.2.2.2.2.2.1))), (b11, .inl (g.2.1 1, 44, .inl ((rdv n0 (ub rtp) v P9 S9).2.2.2.2.2.2.2.2.2.1))), (b12, .inl (g.2.1 1, 132, .inl ((rdv n0 (ub rtp) v P9 S9).2.2.2.2.2.2.2.2.2.2.1))), (b13, .inl (g.2.1 1, 132, .inl ((rdv n0 (ub rtp) v P9 S9).2.2.2.2.2.2.2.2.2.2.2.1))), (b14, .inl (g.2.1 1, 132, .inl ((rdv n0 (ub rtp) v P9 S9).2.2.2.2.2.2.2.2.2.2.2.2.1))), (b15, .inl (g.2.1 1, 132, .inl ((rdv n0 (ub rtp) v P9 S9).2.2.2.2.2.2.2.2.2.2.2.2.2.1))), (b16, .inl (g.2.1 1, 132, .inl ((rdv n0 (ub rtp) v P9 S9).2.2.2.2.2.2.2.2.2.2.2.2.2.2.1))), (b17, .inl (g.2.1 3, 132, .inl ((rdv n0 (ub rtp) v P9 S9).2.2.2.2.2.2.2.2.2.2.2.2.2.2.2))), (b53, .inl (g.2.1 1, 77, .inl ((F_X12_valley1 v cL tA).2.1))), (b61, .inl (g.2.1 1, 308, .inl ((F_X12_valley1 v cL tA).2.2)))]) := by
  refine MetI.of (own := RX12) rfl (by decide) (Nat.le_of_ble_eq_true rfl) ?_
  intro p e s m below meth c A ls args Q hQ X hr hin hW hl
  have hx := X.1
  have hb := X.2.1
  have hl : lv_has ls 2 [(0, .ref h0)] := hl
  refine lv_aload_n (pc := 0) hx hb dX12_valley_0 rfl (lv_at hl 0 rfl) ?_
  refine lv_iconst (v := 0) (pc := 1) hx hb dX12_valley_1 (by decide) ?_
  refine r_put (ws' := [(h0, .inr (12, (vs.set 0 (.int 0)))), (b1, .inl (g.2.1 0, 400, .inl rtp)), (b6, .inl (g.2.1 1, 11, .inl (P9))), (b7, .inl (g.2.1 1, 11, .inl (S9.2.2.1))), (b8, .inl (g.2.1 1, 11, .inl (S9.2.2.2.1))), (b9, .inl (g.2.1 1, 44, .inl (S9.2.2.2.2.1))), (b10, .inl (g.2.1 1, 44, .inl (S9.2.2.2.2.2.1))), (b11, .inl (g.2.1 1, 44, .inl (S9.2.2.2.2.2.2.1))), (b12, .inl (g.2.1 1, 132, .inl (S9.2.2.2.2.2.2.2.1))), (b13, .inl (g.2.1 1, 132, .inl (S9.2.2.2.2.2.2.2.2.1))), (b14, .inl (g.2.1 1, 132, .inl (S9.2.2.2.2.2.2.2.2.2.1))), (b15, .inl (g.2.1 1, 132, .inl (S9.2.2.2.2.2.2.2.2.2.2.1))), (b16, .inl (g.2.1 1, 132, .inl (S9.2.2.2.2.2.2.2.2.2.2.2.1))), (b17, .inl (g.2.1 3, 132, .inl (S9.2.2.2.2.2.2.2.2.2.2.2.2))), (b53, .inl (g.2.1 1, 77, .inl cL)), (b61, .inl (g.2.1 1, 308, .inl tA))]) X hW 0 ciX12 0 rfl (by decide) m_1231 rfl rfl rfl rfl (sv_lt (by decide) (KV_len hk)) rfl dX12_valley_2 (fun H locs hW => ?_)
  refine lv_aload_n (pc := 5) hx hb dX12_valley_5 rfl (lv_at hl 0 rfl) ?_
  refine r_get X hW 0 ciX12 18 rfl (by decide) m_1249 rfl (sv_ne (k := 0) (by decide) h18_) dX12_valley_6 ?_
  refine lv_bipush (v := 10) (pc := 9) hx hb dX12_valley_9 (by decide) ?_
  refine lv_icmp_eq (tgt := 21) (pc := 11) hx hb dX12_valley_11 rfl (fun c1 => absurd c1 (fun q => by have := (nI_eq (a := v) (b := 10) (by omega) (by omega)).mp q; omega)) (fun c1 => ?_)
  refine lv_aload_n (pc := 14) hx hb dX12_valley_14 rfl (lv_at hl 0 rfl) ?_
  refine c_Vi (pc := 15) (As := []) (rest := []) (wr := [(b53, .inl (g.2.1 1, 77, .inl cL)), (b61, .inl (g.2.1 1, 308, .inl tA))]) X hW 0 ciX12 rfl (C_X12_readValleyV l g h0 (vs.set 0 (.int 0)) b1 b6 b7 b8 b9 b10 b11 b12 b13 b14 b15 b16 b17 rtp n0 v P9 S9 (KV_set0 hk) hn0 hv (sv_ne (k := 0) (by decide) h2_) (sv_ne (k := 0) (by decide) h5_) (sv_ne (k := 0) (by decide) h18_) (sv_ne (k := 0) (by decide) h1_) (sv_ne (k := 0) (by decide) h6_) (sv_ne (k := 0) (by decide) h7_) (sv_ne (k := 0) (by decide) h8_) (sv_ne (k := 0) (by decide) h9_) (sv_ne (k := 0) (by decide) h10_) (sv_ne (k := 0) (by decide) h11_) (sv_ne (k := 0) (by decide) h12_) (sv_ne (k := 0) (by decide) h13_) (sv_ne (k := 0) (by decide) h14_) (sv_ne (k := 0) (by decide) h15_) (sv_ne (k := 0) (by decide) h16_) (sv_ne (k := 0) (by decide) h17_)) vX12_218 [0, 1, 2, 3, 4, 5, 6, 7, 8, 9, 10, 11, 12, 13] [14, 15] rfl rfl rfl rfl rfl rfl hl.1 rfl (Nat.le_of_ble_eq_true rfl) ⟨Nat.le_of_ble_eq_true rfl, Nat.le_of_ble_eq_true rfl⟩ ⟨Nat.le_of_ble_eq_true rfl, Nat.le_of_ble_eq_true rfl⟩ dX12_valley_15 (fun r2 u9 H locs hq hW => ?_)
  obtain ⟨rfl, rfl⟩ := hq
  have hW : WD g A s _ _ [(b53, .inl (g.2.1 1, 77, .inl cL)), (b61, .inl (g.2.1 1, 308, .inl tA)), (h0, .inr (12, ((((vs.set 0 (.int 0)).set 3 (.int (nI (rdv n0 (ub rtp) v P9 S9).2.2.2.1))).set 4 (.int ((rdv n0 (ub rtp) v P9 S9).2.1))).set 5 (.int ((rdv n0 (ub rtp) v P9 S9).2.2.2.2.1))))), (b1, .inl (g.2.1 0, 400, .inl rtp)), (b6, .inl (g.2.1 1, 11, .inl ((rdv n0 (ub rtp) v P9 S9).2.2.1))), (b7, .inl (g.2.1 1, 11, .inl ((rdv n0 (ub rtp) v P9 S9).2.2.2.2.2.1))), (b8, .inl (g.2.1 1, 11, .inl ((rdv n0 (ub rtp) v P9 S9).2.2.2.2.2.2.1))), (b9, .inl (g.2.1 1, 44, .inl ((rdv n0 (ub rtp) v P9 S9).2.2.2.2.2.2.2.1))), (b10, .inl (g.2.1 1, 44, .inl ((rdv n0 (ub rtp) v P9 S9).2.2.2.2.2.2.2.2.1))), (b11, .inl (g.2.1 1, 44, .inl ((rdv n0 (ub rtp) v P9 S9).2.2.2.2.2.2.2.2.2.1))), (b12, .inl (g.2.1 1, 132, .inl ((rdv n0 (ub rtp) v P9 S9).2.2.2.2.2.2.2.2.2.2.1))), (b13, .inl (g.2.1 1, 132, .inl ((rdv n0 (ub rtp) v P9 S9).2.2.2.2.2.2.2.2.2.2.2.1))), (b14, .inl (g.2.1 1, 132, .inl ((rdv n0 (ub rtp) v P9 S9).2.2.2.2.2.2.2.2.2.2.2.2.1))), (b15, .inl (g.2.1 1, 132, .inl ((rdv n0 (ub rtp) v P9 S9).2.2.2.2.2.2.2.2.2.2.2.2.2.1))), (b16, .inl (g.2.1 1, 132, .inl ((rdv n0 (ub rtp) v P9 S9).2.2.2.2.2.2.2.2.2.2.2.2.2.2.1))), (b17, .inl (g.2.1 3, 132, .inl ((rdv n0 (ub rtp) v P9 S9).2.2.2.2.2.2.2.2.2.2.2.2.2.2.2)))] := hW
  refine lv_if_ne (tgt := 23) (pc := 18) hx hb dX12_valley_18 rfl (fun c3 => ?_) (fun c3 => absurd c3 hgood)
  refine lv_aload_n (pc := 23) hx hb dX12_valley_23 rfl (lv_at hl 0 rfl) ?_
  refine lv_iconst (v := 0) (pc := 24) hx hb dX12_valley_24 (by decide) ?_
  refine r_put (ws' := [(b53, .inl (g.2.1 1, 77, .inl cL)), (b61, .inl (g.2.1 1, 308, .inl tA)), (h0, .inr (12, (((((vs.set 0 (.int 0)).set 3 (.int (nI (rdv n0 (ub rtp) v P9 S9).2.2.2.1))).set 4 (.int ((rdv n0 (ub rtp) v P9 S9).2.1))).set 5 (.int ((rdv n0 (ub rtp) v P9 S9).2.2.2.2.1))).set 2 (.int 0)))), (b1, .inl (g.2.1 0, 400, .inl rtp)), (b6, .inl (g.2.1 1, 11, .inl ((rdv n0 (ub rtp) v P9 S9).2.2.1))), (b7, .inl (g.2.1 1, 11, .inl ((rdv n0 (ub rtp) v P9 S9).2.2.2.2.2.1))), (b8, .inl (g.2.1 1, 11, .inl ((rdv n0 (ub rtp) v P9 S9).2.2.2.2.2.2.1))), (b9, .inl (g.2.1 1, 44, .inl ((rdv n0 (ub rtp) v P9 S9).2.2.2.2.2.2.2.1))), (b10, .inl (g.2.1 1, 44, .inl ((rdv n0 (ub rtp) v P9 S9).2.2.2.2.2.2.2.2.1))), (b11, .inl (g.2.1 1, 44, .inl ((rdv n0 (ub rtp) v P9 S9).2.2.2.2.2.2.2.2.2.1))), (b12, .inl (g.2.1 1, 132, .inl ((rdv n0 (ub rtp) v P9 S9).2.2.2.2.2.2.2.2.2.2.1))), (b13, .inl (g.2.1 1, 132, .inl ((rdv n0 (ub rtp) v P9 S9).2.2.2.2.2.2.2.2.2.2.2.1))), (b14, .inl (g.2.1 1, 132, .inl ((rdv n0 (ub rtp) v P9 S9).2.2.2.2.2.2.2.2.2.2.2.2.1))), (b15, .inl (g.2.1 1, 132, .inl ((rdv n0 (ub rtp) v P9 S9).2.2.2.2.2.2.2.2.2.2.2.2.2.1))), (b16, .inl (g.2.1 1, 132, .inl ((rdv n0 (ub rtp) v P9 S9).2.2.2.2.2.2.2.2.2.2.2.2.2.2.1))), (b17, .inl (g.2.1 3, 132, .inl ((rdv n0 (ub rtp) v P9 S9).2.2.2.2.2.2.2.2.2.2.2.2.2.2.2)))]) X hW 2 ciX12 2 rfl (by decide) m_1233 rfl rfl rfl rfl (sv_lt (by decide) (sv_len (sv_len (sv_len (sv_len (KV_len hk)))))) rfl dX12_valley_25 (fun H locs hW => ?_)
  refine lv_iconst (v := 0) (pc := 28) hx hb dX12_valley_28 (by decide) ?_
  refine lv_istore_n (lv' := [(1, .int 0), (0, .ref h0)]) (pc := 29) hx hb dX12_valley_29 rfl hl (by decide) rfl (fun ls hl => ?_)
  have loop1 : ∀ (fu1 : Nat) (j1 : Nat) (fb53_1 : Nat → Int32), (7 < fu1 + j1) → (j1 ≤ 7) → (fb53_1 = L1_X12_valley1 v cL j1) → ∀ (H : Heap) (locs : List Loc) (ls : Array Slot), WD g A s H locs [(b53, .inl (g.2.1 1, 77, .inl fb53_1)), (b61, .inl (g.2.1 1, 308, .inl tA)), (h0, .inr (12, (((((vs.set 0 (.int 0)).set 3 (.int (nI (rdv n0 (ub rtp) v P9 S9).2.2.2.1))).set 4 (.int ((rdv n0 (ub rtp) v P9 S9).2.1))).set 5 (.int ((rdv n0 (ub rtp) v P9 S9).2.2.2.2.1))).set 2 (.int 0)))), (b1, .inl (g.2.1 0, 400, .inl rtp)), (b6, .inl (g.2.1 1, 11, .inl ((rdv n0 (ub rtp) v P9 S9).2.2.1))), (b7, .inl (g.2.1 1, 11, .inl ((rdv n0 (ub rtp) v P9 S9).2.2.2.2.2.1))), (b8, .inl (g.2.1 1, 11, .inl ((rdv n0 (ub rtp) v P9 S9).2.2.2.2.2.2.1))), (b9, .inl (g.2.1 1, 44, .inl ((rdv n0 (ub rtp) v P9 S9).2.2.2.2.2.2.2.1))), (b10, .inl (g.2.1 1, 44, .inl ((rdv n0 (ub rtp) v P9 S9).2.2.2.2.2.2.2.2.1))), (b11, .inl (g.2.1 1, 44, .inl ((rdv n0 (ub rtp) v P9 S9).2.2.2.2.2.2.2.2.2.1))), (b12, .inl (g.2.1 1, 132, .inl ((rdv n0 (ub rtp) v P9 S9).2.2.2.2.2.2.2.2.2.2.1))), (b13, .inl (g.2.1 1, 132, .inl ((rdv n0 (ub rtp) v P9 S9).2.2.2.2.2.2.2.2.2.2.2.1))), (b14, .inl (g.2.1 1, 132, .inl ((rdv n0 (ub rtp) v P9 S9).2.2.2.2.2.2.2.2.2.2.2.2.1))), (b15, .inl (g.2.1 1, 132, .inl ((rdv n0 (ub rtp) v P9 S9).2.2.2.2.2.2.2.2.2.2.2.2.2.1))), (b16, .inl (g.2.1 1, 132, .inl ((rdv n0 (ub rtp) v P9 S9).2.2.2.2.2.2.2.2.2.2.2.2.2.2.1))), (b17, .inl (g.2.1 3, 132, .inl ((rdv n0 (ub rtp) v P9 S9).2.2.2.2.2.2.2.2.2.2.2.2.2.2.2)))] → lv_has ls 2 [(1, .int (nI j1)), (0, .ref h0)] → W p l e (RM 6 0 0) s m args below meth c H locs 0 0 Q (F0 m 30 ls []) := by
    intro fu1
    induction fu1 with
    | zero =>
      intro j1 fb53_1 hm1 hj1 hst1
      exact absurd hm1 (by omega)
    | succ fu1 ih1 =>
      intro j1 fb53_1 hm1 hj1 hst1 H locs ls hW hl
      refine lv_iload_n (pc := 30) hx hb dX12_valley_30 rfl (lv_at hl 0 rfl) ?_
      refine lv_bipush (v := 7) (pc := 31) hx hb dX12_valley_31 (by decide) ?_
      refine lv_icmp_ge (tgt := 57) (pc := 33) hx hb dX12_valley_33 rfl (fun c4 => ?_) (fun c4 => ?_)
      · have h5 : 7 ≤ j1 := (nI_leI (a := 7) (b := j1) (by omega) (by omega)).mp c4
        have hN1 : j1 = 7 := by omega
        rw [hN1] at hst1
        subst hst1
        have hW : WD g A s _ _ [(b53, .inl (g.2.1 1, 77, .inl (L1_X12_valley1 v cL 7))), (b61, .inl (g.2.1 1, 308, .inl tA)), (h0, .inr (12, (((((vs.set 0 (.int 0)).set 3 (.int (nI (rdv n0 (ub rtp) v P9 S9).2.2.2.1))).set 4 (.int ((rdv n0 (ub rtp) v P9 S9).2.1))).set 5 (.int ((rdv n0 (ub rtp) v P9 S9).2.2.2.2.1))).set 2 (.int 0)))), (b1, .inl (g.2.1 0, 400, .inl rtp)), (b6, .inl (g.2.1 1, 11, .inl ((rdv n0 (ub rtp) v P9 S9).2.2.1))), (b7, .inl (g.2.1 1, 11, .inl ((rdv n0 (ub rtp) v P9 S9).2.2.2.2.2.1))), (b8, .inl (g.2.1 1, 11, .inl ((rdv n0 (ub rtp) v P9 S9).2.2.2.2.2.2.1))), (b9, .inl (g.2.1 1, 44, .inl ((rdv n0 (ub rtp) v P9 S9).2.2.2.2.2.2.2.1))), (b10, .inl (g.2.1 1, 44, .inl ((rdv n0 (ub rtp) v P9 S9).2.2.2.2.2.2.2.2.1))), (b11, .inl (g.2.1 1, 44, .inl ((rdv n0 (ub rtp) v P9 S9).2.2.2.2.2.2.2.2.2.1))), (b12, .inl (g.2.1 1, 132, .inl ((rdv n0 (ub rtp) v P9 S9).2.2.2.2.2.2.2.2.2.2.1))), (b13, .inl (g.2.1 1, 132, .inl ((rdv n0 (ub rtp) v P9 S9).2.2.2.2.2.2.2.2.2.2.2.1))), (b14, .inl (g.2.1 1, 132, .inl ((rdv n0 (ub rtp) v P9 S9).2.2.2.2.2.2.2.2.2.2.2.2.1))), (b15, .inl (g.2.1 1, 132, .inl ((rdv n0 (ub rtp) v P9 S9).2.2.2.2.2.2.2.2.2.2.2.2.2.1))), (b16, .inl (g.2.1 1, 132, .inl ((rdv n0 (ub rtp) v P9 S9).2.2.2.2.2.2.2.2.2.2.2.2.2.2.1))), (b17, .inl (g.2.1 3, 132, .inl ((rdv n0 (ub rtp) v P9 S9).2.2.2.2.2.2.2.2.2.2.2.2.2.2.2)))] := hW
        refine lv_iconst (v := 0) (pc := 57) hx hb dX12_valley_57 (by decide) ?_
        refine lv_istore_n (lv' := [(1, .int 0), (0, .ref h0)]) (pc := 58) hx hb dX12_valley_58 rfl hl (by decide) rfl (fun ls hl => ?_)
        have loop2 : ∀ (fu2 : Nat) (j2 : Nat) (fb61_2 : Nat → Int32), (28 < fu2 + j2) → (j2 ≤ 28) → (fb61_2 = L2_X12_valley1 v tA j2) → ∀ (H : Heap) (locs : List Loc) (ls : Array Slot), WD g A s H locs [(b53, .inl (g.2.1 1, 77, .inl (L1_X12_valley1 v cL 7))), (b61, .inl (g.2.1 1, 308, .inl fb61_2)), (h0, .inr (12, (((((vs.set 0 (.int 0)).set 3 (.int (nI (rdv n0 (ub rtp) v P9 S9).2.2.2.1))).set 4 (.int ((rdv n0 (ub rtp) v P9 S9).2.1))).set 5 (.int ((rdv n0 (ub rtp) v P9 S9).2.2.2.2.1))).set 2 (.int 0)))), (b1, .inl (g.2.1 0, 400, .inl rtp)), (b6, .inl (g.2.1 1, 11, .inl ((rdv n0 (ub rtp) v P9 S9).2.2.1))), (b7, .inl (g.2.1 1, 11, .inl ((rdv n0 (ub rtp) v P9 S9).2.2.2.2.2.1))), (b8, .inl (g.2.1 1, 11, .inl ((rdv n0 (ub rtp) v P9 S9).2.2.2.2.2.2.1))), (b9, .inl (g.2.1 1, 44, .inl ((rdv n0 (ub rtp) v P9 S9).2.2.2.2.2.2.2.1))), (b10, .inl (g.2.1 1, 44, .inl ((rdv n0 (ub rtp) v P9 S9).2.2.2.2.2.2.2.2.1))), (b11, .inl (g.2.1 1, 44, .inl ((rdv n0 (ub rtp) v P9 S9).2.2.2.2.2.2.2.2.2.1))), (b12, .inl (g.2.1 1, 132, .inl ((rdv n0 (ub rtp) v P9 S9).2.2.2.2.2.2.2.2.2.2.1))), (b13, .inl (g.2.1 1, 132, .inl ((rdv n0 (ub rtp) v P9 S9).2.2.2.2.2.2.2.2.2.2.2.1))), (b14, .inl (g.2.1 1, 132, .inl ((rdv n0 (ub rtp) v P9 S9).2.2.2.2.2.2.2.2.2.2.2.2.1))), (b15, .inl (g.2.1 1, 132, .inl ((rdv n0 (ub rtp) v P9 S9).2.2.2.2.2.2.2.2.2.2.2.2.2.1))), (b16, .inl (g.2.1 1, 132, .inl ((rdv n0 (ub rtp) v P9 S9).2.2.2.2.2.2.2.2.2.2.2.2.2.2.1))), (b17, .inl (g.2.1 3, 132, .inl ((rdv n0 (ub rtp) v P9 S9).2.2.2.2.2.2.2.2.2.2.2.2.2.2.2)))] → lv_has ls 2 [(1, .int (nI j2)), (0, .ref h0)] → W p l e (RM 6 0 0) s m args below meth c H locs 0 0 Q (F0 m 59 ls []) := by
          intro fu2
          induction fu2 with
          | zero =>
            intro j2 fb61_2 hm2 hj2 hst2
            exact absurd hm2 (by omega)
          | succ fu2 ih2 =>
            intro j2 fb61_2 hm2 hj2 hst2 H locs ls hW hl
            refine lv_iload_n (pc := 59) hx hb dX12_valley_59 rfl (lv_at hl 0 rfl) ?_
            refine lv_bipush (v := 28) (pc := 60) hx hb dX12_valley_60 (by decide) ?_
            refine lv_icmp_ge (tgt := 86) (pc := 62) hx hb dX12_valley_62 rfl (fun c6 => ?_) (fun c6 => ?_)
            · have h7 : 28 ≤ j2 := (nI_leI (a := 28) (b := j2) (by omega) (by omega)).mp c6
              have hN2 : j2 = 28 := by omega
              rw [hN2] at hst2
              subst hst2
              have hW : WD g A s _ _ [(b53, .inl (g.2.1 1, 77, .inl (L1_X12_valley1 v cL 7))), (b61, .inl (g.2.1 1, 308, .inl (L2_X12_valley1 v tA 28))), (h0, .inr (12, (((((vs.set 0 (.int 0)).set 3 (.int (nI (rdv n0 (ub rtp) v P9 S9).2.2.2.1))).set 4 (.int ((rdv n0 (ub rtp) v P9 S9).2.1))).set 5 (.int ((rdv n0 (ub rtp) v P9 S9).2.2.2.2.1))).set 2 (.int 0)))), (b1, .inl (g.2.1 0, 400, .inl rtp)), (b6, .inl (g.2.1 1, 11, .inl ((rdv n0 (ub rtp) v P9 S9).2.2.1))), (b7, .inl (g.2.1 1, 11, .inl ((rdv n0 (ub rtp) v P9 S9).2.2.2.2.2.1))), (b8, .inl (g.2.1 1, 11, .inl ((rdv n0 (ub rtp) v P9 S9).2.2.2.2.2.2.1))), (b9, .inl (g.2.1 1, 44, .inl ((rdv n0 (ub rtp) v P9 S9).2.2.2.2.2.2.2.1))), (b10, .inl (g.2.1 1, 44, .inl ((rdv n0 (ub rtp) v P9 S9).2.2.2.2.2.2.2.2.1))), (b11, .inl (g.2.1 1, 44, .inl ((rdv n0 (ub rtp) v P9 S9).2.2.2.2.2.2.2.2.2.1))), (b12, .inl (g.2.1 1, 132, .inl ((rdv n0 (ub rtp) v P9 S9).2.2.2.2.2.2.2.2.2.2.1))), (b13, .inl (g.2.1 1, 132, .inl ((rdv n0 (ub rtp) v P9 S9).2.2.2.2.2.2.2.2.2.2.2.1))), (b14, .inl (g.2.1 1, 132, .inl ((rdv n0 (ub rtp) v P9 S9).2.2.2.2.2.2.2.2.2.2.2.2.1))), (b15, .inl (g.2.1 1, 132, .inl ((rdv n0 (ub rtp) v P9 S9).2.2.2.2.2.2.2.2.2.2.2.2.2.1))), (b16, .inl (g.2.1 1, 132, .inl ((rdv n0 (ub rtp) v P9 S9).2.2.2.2.2.2.2.2.2.2.2.2.2.2.1))), (b17, .inl (g.2.1 3, 132, .inl ((rdv n0 (ub rtp) v P9 S9).2.2.2.2.2.2.2.2.2.2.2.2.2.2.2)))] := hW
              refine lv_aload_n (pc := 86) hx hb dX12_valley_86 rfl (lv_at hl 1 rfl) ?_
              refine lv_dup (pc := 87) hx hb dX12_valley_87 rfl ?_
              refine r_get X hW 2 ciX12 18 rfl (by decide) m_1249 rfl (sv_ne (k := 2) (by decide) (sv_ne (k := 5) (by decide) (sv_ne (k := 4) (by decide) (sv_ne (k := 3) (by decide) (sv_ne (k := 0) (by decide) h18_))))) dX12_valley_88 ?_
              refine lv_iconst (v := 1) (pc := 91) hx hb dX12_valley_91 (by decide) ?_
              refine lv_iadd (pc := 92) hx hb dX12_valley_92 ?_
              refine lv_topi (fun v8 ev8 => ?_)
              obtain rfl : v8 = nI (v + 1) := ev8.trans (nI_add v 1)
              refine r_put (ws' := [(b53, .inl (g.2.1 1, 77, .inl (L1_X12_valley1 v cL 7))), (b61, .inl (g.2.1 1, 308, .inl (L2_X12_valley1 v tA 28))), (h0, .inr (12, ((((((vs.set 0 (.int 0)).set 3 (.int (nI (rdv n0 (ub rtp) v P9 S9).2.2.2.1))).set 4 (.int ((rdv n0 (ub rtp) v P9 S9).2.1))).set 5 (.int ((rdv n0 (ub rtp) v P9 S9).2.2.2.2.1))).set 2 (.int 0)).set 18 (.int (nI (v + 1)))))), (b1, .inl (g.2.1 0, 400, .inl rtp)), (b6, .inl (g.2.1 1, 11, .inl ((rdv n0 (ub rtp) v P9 S9).2.2.1))), (b7, .inl (g.2.1 1, 11, .inl ((rdv n0 (ub rtp) v P9 S9).2.2.2.2.2.1))), (b8, .inl (g.2.1 1, 11, .inl ((rdv n0 (ub rtp) v P9 S9).2.2.2.2.2.2.1))), (b9, .inl (g.2.1 1, 44, .inl ((rdv n0 (ub rtp) v P9 S9).2.2.2.2.2.2.2.1))), (b10, .inl (g.2.1 1, 44, .inl ((rdv n0 (ub rtp) v P9 S9).2.2.2.2.2.2.2.2.1))), (b11, .inl (g.2.1 1, 44, .inl ((rdv n0 (ub rtp) v P9 S9).2.2.2.2.2.2.2.2.2.1))), (b12, .inl (g.2.1 1, 132, .inl ((rdv n0 (ub rtp) v P9 S9).2.2.2.2.2.2.2.2.2.2.1))), (b13, .inl (g.2.1 1, 132, .inl ((rdv n0 (ub rtp) v P9 S9).2.2.2.2.2.2.2.2.2.2.2.1))), (b14, .inl (g.2.1 1, 132, .inl ((rdv n0 (ub rtp) v P9 S9).2.2.2.2.2.2.2.2.2.2.2.2.1))), (b15, .inl (g.2.1 1, 132, .inl ((rdv n0 (ub rtp) v P9 S9).2.2.2.2.2.2.2.2.2.2.2.2.2.1))), (b16, .inl (g.2.1 1, 132, .inl ((rdv n0 (ub rtp) v P9 S9).2.2.2.2.2.2.2.2.2.2.2.2.2.2.1))), (b17, .inl (g.2.1 3, 132, .inl ((rdv n0 (ub rtp) v P9 S9).2.2.2.2.2.2.2.2.2.2.2.2.2.2.2)))]) X hW 2 ciX12 18 rfl (by decide) m_1249 rfl rfl rfl rfl (sv_lt (by decide) (sv_len (sv_len (sv_len (sv_len (sv_len (KV_len hk))))))) rfl dX12_valley_93 (fun H locs hW => ?_)
              refine lv_aload_n (pc := 96) hx hb dX12_valley_96 rfl (lv_at hl 1 rfl) ?_
              refine r_get X hW 2 ciX12 18 rfl (by decide) m_1249 rfl (sv_eq (k := 18) (n := 64) (by decide) (sv_len (sv_len (sv_len (sv_len (sv_len (KV_len hk))))))) dX12_valley_97 ?_
              refine lv_iconst (v := 1) (pc := 100) hx hb dX12_valley_100 (by decide) ?_
              refine lv_isub (pc := 101) hx hb dX12_valley_101 ?_
              refine lv_topi (fun v9 ev9 => ?_)
              obtain rfl : v9 = nI (v + 1 - 1) := ev9.trans (pk_sub (a := (v + 1)) (b := 1) (by omega))
              have hF : F_X12_valley1 v cL tA = (nI (v + 1 - 1), (L1_X12_valley1 v cL 7), (L2_X12_valley1 v tA 28)) := show F_X12_valley1 v cL tA = (nI (v + 1 - 1), (L1_X12_valley1 v cL 7), (L2_X12_valley1 v tA 28)) from rfl
              exact e_i (u := [(h0, .inr (12, ((((((vs.set 0 (.int 0)).set 3 (.int (nI (rdv n0 (ub rtp) v P9 S9).2.2.2.1))).set 4 (.int ((rdv n0 (ub rtp) v P9 S9).2.1))).set 5 (.int ((rdv n0 (ub rtp) v P9 S9).2.2.2.2.1))).set 2 (.int 0)).set 18 (.int (nI (v + 1)))))), (b1, .inl (g.2.1 0, 400, .inl rtp)), (b6, .inl (g.2.1 1, 11, .inl ((rdv n0 (ub rtp) v P9 S9).2.2.1))), (b7, .inl (g.2.1 1, 11, .inl ((rdv n0 (ub rtp) v P9 S9).2.2.2.2.2.1))), (b8, .inl (g.2.1 1, 11, .inl ((rdv n0 (ub rtp) v P9 S9).2.2.2.2.2.2.1))), (b9, .inl (g.2.1 1, 44, .inl ((rdv n0 (ub rtp) v P9 S9).2.2.2.2.2.2.2.1))), (b10, .inl (g.2.1 1, 44, .inl ((rdv n0 (ub rtp) v P9 S9).2.2.2.2.2.2.2.2.1))), (b11, .inl (g.2.1 1, 44, .inl ((rdv n0 (ub rtp) v P9 S9).2.2.2.2.2.2.2.2.2.1))), (b12, .inl (g.2.1 1, 132, .inl ((rdv n0 (ub rtp) v P9 S9).2.2.2.2.2.2.2.2.2.2.1))), (b13, .inl (g.2.1 1, 132, .inl ((rdv n0 (ub rtp) v P9 S9).2.2.2.2.2.2.2.2.2.2.2.1))), (b14, .inl (g.2.1 1, 132, .inl ((rdv n0 (ub rtp) v P9 S9).2.2.2.2.2.2.2.2.2.2.2.2.1))), (b15, .inl (g.2.1 1, 132, .inl ((rdv n0 (ub rtp) v P9 S9).2.2.2.2.2.2.2.2.2.2.2.2.2.1))), (b16, .inl (g.2.1 1, 132, .inl ((rdv n0 (ub rtp) v P9 S9).2.2.2.2.2.2.2.2.2.2.2.2.2.2.1))), (b17, .inl (g.2.1 3, 132, .inl ((rdv n0 (ub rtp) v P9 S9).2.2.2.2.2.2.2.2.2.2.2.2.2.2.2))), (b53, .inl (g.2.1 1, 77, .inl (L1_X12_valley1 v cL 7))), (b61, .inl (g.2.1 1, 308, .inl (L2_X12_valley1 v tA 28)))]) X hQ hr (hW) [2, 3, 4, 5, 6, 7, 8, 9, 10, 11, 12, 13, 14, 15, 0, 1] rfl rfl (⟨(congrArg Prod.fst hF).symm, by rw [hF]⟩) ⟨Nat.le_of_ble_eq_true rfl, Nat.le_of_ble_eq_true rfl⟩ dX12_valley_102
            · have h10 : ¬ (28 ≤ j2) := fun q => c6 ((nI_leI (a := 28) (b := j2) (by omega) (by omega)).mpr q)
              refine lv_aload_n (pc := 65) hx hb dX12_valley_65 rfl (lv_at hl 1 rfl) ?_
              refine r_get X hW 2 ciX12 61 rfl (by decide) m_1288 rfl (sv_ne (k := 2) (by decide) (sv_ne (k := 5) (by decide) (sv_ne (k := 4) (by decide) (sv_ne (k := 3) (by decide) (sv_ne (k := 0) (by decide) h61_))))) dX12_valley_66 ?_
              refine lv_bipush (v := 28) (pc := 69) hx hb dX12_valley_69 (by decide) ?_
              refine lv_aload_n (pc := 71) hx hb dX12_valley_71 rfl (lv_at hl 1 rfl) ?_
              refine r_get X hW 2 ciX12 18 rfl (by decide) m_1249 rfl (sv_ne (k := 2) (by decide) (sv_ne (k := 5) (by decide) (sv_ne (k := 4) (by decide) (sv_ne (k := 3) (by decide) (sv_ne (k := 0) (by decide) h18_))))) dX12_valley_72 ?_
              refine lv_imul (pc := 75) hx hb dX12_valley_75 ?_
              refine lv_topi (fun v11 ev11 => ?_)
              obtain rfl : v11 = nI (28 * v) := ev11.trans (pk_mul 28 v)
              refine lv_iload_n (pc := 76) hx hb dX12_valley_76 rfl (lv_at hl 0 rfl) ?_
              refine lv_iadd (pc := 77) hx hb dX12_valley_77 ?_
              refine lv_topi (fun v12 ev12 => ?_)
              obtain rfl : v12 = nI (28 * v + j2) := ev12.trans (nI_add _ _)
              refine lv_iconst (v := (-1)) (pc := 78) hx hb dX12_valley_78 (by decide) ?_
              refine r_iast (ws' := [(b53, .inl (g.2.1 1, 77, .inl (L1_X12_valley1 v cL 7))), (b61, .inl (g.2.1 1, 308, .inl (upd fb61_2 (28 * v + j2) (-1 : Int32)))), (h0, .inr (12, (((((vs.set 0 (.int 0)).set 3 (.int (nI (rdv n0 (ub rtp) v P9 S9).2.2.2.1))).set 4 (.int ((rdv n0 (ub rtp) v P9 S9).2.1))).set 5 (.int ((rdv n0 (ub rtp) v P9 S9).2.2.2.2.1))).set 2 (.int 0)))), (b1, .inl (g.2.1 0, 400, .inl rtp)), (b6, .inl (g.2.1 1, 11, .inl ((rdv n0 (ub rtp) v P9 S9).2.2.1))), (b7, .inl (g.2.1 1, 11, .inl ((rdv n0 (ub rtp) v P9 S9).2.2.2.2.2.1))), (b8, .inl (g.2.1 1, 11, .inl ((rdv n0 (ub rtp) v P9 S9).2.2.2.2.2.2.1))), (b9, .inl (g.2.1 1, 44, .inl ((rdv n0 (ub rtp) v P9 S9).2.2.2.2.2.2.2.1))), (b10, .inl (g.2.1 1, 44, .inl ((rdv n0 (ub rtp) v P9 S9).2.2.2.2.2.2.2.2.1))), (b11, .inl (g.2.1 1, 44, .inl ((rdv n0 (ub rtp) v P9 S9).2.2.2.2.2.2.2.2.2.1))), (b12, .inl (g.2.1 1, 132, .inl ((rdv n0 (ub rtp) v P9 S9).2.2.2.2.2.2.2.2.2.2.1))), (b13, .inl (g.2.1 1, 132, .inl ((rdv n0 (ub rtp) v P9 S9).2.2.2.2.2.2.2.2.2.2.2.1))), (b14, .inl (g.2.1 1, 132, .inl ((rdv n0 (ub rtp) v P9 S9).2.2.2.2.2.2.2.2.2.2.2.2.1))), (b15, .inl (g.2.1 1, 132, .inl ((rdv n0 (ub rtp) v P9 S9).2.2.2.2.2.2.2.2.2.2.2.2.2.1))), (b16, .inl (g.2.1 1, 132, .inl ((rdv n0 (ub rtp) v P9 S9).2.2.2.2.2.2.2.2.2.2.2.2.2.2.1))), (b17, .inl (g.2.1 3, 132, .inl ((rdv n0 (ub rtp) v P9 S9).2.2.2.2.2.2.2.2.2.2.2.2.2.2.2)))]) X hW 1 rfl (vp_in_nI (by omega) (by decide)) (f' := (upd fb61_2 (28 * v + j2) (-1 : Int32))) (by rw [nI_clamp (by omega)]) rfl dX12_valley_79 (fun H locs hW => ?_)
              refine lv_iinc (v := nI (j2 + 1)) (lv' := [(1, .int (nI (j2 + 1))), (0, .ref h0)]) (pc := 80) hx hb dX12_valley_80 hl (k := 0) rfl (nI_add j2 1) (by decide) rfl (fun ls hl => ?_)
              refine lv_goto (tgt := 59) (pc := 83) hx hb dX12_valley_83 rfl ?_
              exact ih2 (j2 + 1) (upd fb61_2 (28 * v + j2) (-1 : Int32)) (by omega) (by omega) (by rw [L2_X12_valley1, ← hst2]; exact (show L2_X12_valley1s v j2 fb61_2 = (upd fb61_2 (28 * v + j2) (-1 : Int32)) from rfl).symm) _ _ _ hW (lv_sub hl [0, 1] rfl)
        exact loop2 (28 + 1) 0 tA (by omega) (by omega) rfl _ _ _ hW (lv_sub hl [0, 1] rfl)
      · have h13 : ¬ (7 ≤ j1) := fun q => c4 ((nI_leI (a := 7) (b := j1) (by omega) (by omega)).mpr q)
        refine lv_aload_n (pc := 36) hx hb dX12_valley_36 rfl (lv_at hl 1 rfl) ?_
        refine r_get X hW 2 ciX12 53 rfl (by decide) m_1280 rfl (sv_ne (k := 2) (by decide) (sv_ne (k := 5) (by decide) (sv_ne (k := 4) (by decide) (sv_ne (k := 3) (by decide) (sv_ne (k := 0) (by decide) h53_))))) dX12_valley_37 ?_
        refine lv_bipush (v := 7) (pc := 40) hx hb dX12_valley_40 (by decide) ?_
        refine lv_aload_n (pc := 42) hx hb dX12_valley_42 rfl (lv_at hl 1 rfl) ?_
        refine r_get X hW 2 ciX12 18 rfl (by decide) m_1249 rfl (sv_ne (k := 2) (by decide) (sv_ne (k := 5) (by decide) (sv_ne (k := 4) (by decide) (sv_ne (k := 3) (by decide) (sv_ne (k := 0) (by decide) h18_))))) dX12_valley_43 ?_
        refine lv_imul (pc := 46) hx hb dX12_valley_46 ?_
        refine lv_topi (fun v14 ev14 => ?_)
        obtain rfl : v14 = nI (7 * v) := ev14.trans (pk_mul 7 v)
        refine lv_iload_n (pc := 47) hx hb dX12_valley_47 rfl (lv_at hl 0 rfl) ?_
        refine lv_iadd (pc := 48) hx hb dX12_valley_48 ?_
        refine lv_topi (fun v15 ev15 => ?_)
        obtain rfl : v15 = nI (7 * v + j1) := ev15.trans (nI_add _ _)
        refine lv_iconst (v := 0) (pc := 49) hx hb dX12_valley_49 (by decide) ?_
        refine r_iast (ws' := [(b53, .inl (g.2.1 1, 77, .inl (upd fb53_1 (7 * v + j1) (0 : Int32)))), (b61, .inl (g.2.1 1, 308, .inl tA)), (h0, .inr (12, (((((vs.set 0 (.int 0)).set 3 (.int (nI (rdv n0 (ub rtp) v P9 S9).2.2.2.1))).set 4 (.int ((rdv n0 (ub rtp) v P9 S9).2.1))).set 5 (.int ((rdv n0 (ub rtp) v P9 S9).2.2.2.2.1))).set 2 (.int 0)))), (b1, .inl (g.2.1 0, 400, .inl rtp)), (b6, .inl (g.2.1 1, 11, .inl ((rdv n0 (ub rtp) v P9 S9).2.2.1))), (b7, .inl (g.2.1 1, 11, .inl ((rdv n0 (ub rtp) v P9 S9).2.2.2.2.2.1))), (b8, .inl (g.2.1 1, 11, .inl ((rdv n0 (ub rtp) v P9 S9).2.2.2.2.2.2.1))), (b9, .inl (g.2.1 1, 44, .inl ((rdv n0 (ub rtp) v P9 S9).2.2.2.2.2.2.2.1))), (b10, .inl (g.2.1 1, 44, .inl ((rdv n0 (ub rtp) v P9 S9).2.2.2.2.2.2.2.2.1))), (b11, .inl (g.2.1 1, 44, .inl ((rdv n0 (ub rtp) v P9 S9).2.2.2.2.2.2.2.2.2.1))), (b12, .inl (g.2.1 1, 132, .inl ((rdv n0 (ub rtp) v P9 S9).2.2.2.2.2.2.2.2.2.2.1))), (b13, .inl (g.2.1 1, 132, .inl ((rdv n0 (ub rtp) v P9 S9).2.2.2.2.2.2.2.2.2.2.2.1))), (b14, .inl (g.2.1 1, 132, .inl ((rdv n0 (ub rtp) v P9 S9).2.2.2.2.2.2.2.2.2.2.2.2.1))), (b15, .inl (g.2.1 1, 132, .inl ((rdv n0 (ub rtp) v P9 S9).2.2.2.2.2.2.2.2.2.2.2.2.2.1))), (b16, .inl (g.2.1 1, 132, .inl ((rdv n0 (ub rtp) v P9 S9).2.2.2.2.2.2.2.2.2.2.2.2.2.2.1))), (b17, .inl (g.2.1 3, 132, .inl ((rdv n0 (ub rtp) v P9 S9).2.2.2.2.2.2.2.2.2.2.2.2.2.2.2)))]) X hW 0 rfl (vp_in_nI (by omega) (by decide)) (f' := (upd fb53_1 (7 * v + j1) (0 : Int32))) (by rw [nI_clamp (by omega)]) rfl dX12_valley_50 (fun H locs hW => ?_)
        refine lv_iinc (v := nI (j1 + 1)) (lv' := [(1, .int (nI (j1 + 1))), (0, .ref h0)]) (pc := 51) hx hb dX12_valley_51 hl (k := 0) rfl (nI_add j1 1) (by decide) rfl (fun ls hl => ?_)
        refine lv_goto (tgt := 30) (pc := 54) hx hb dX12_valley_54 rfl ?_
        exact ih1 (j1 + 1) (upd fb53_1 (7 * v + j1) (0 : Int32)) (by omega) (by omega) (by rw [L1_X12_valley1, ← hst1]; exact (show L1_X12_valley1s v j1 fb53_1 = (upd fb53_1 (7 * v + j1) (0 : Int32)) from rfl).symm) _ _ _ hW (lv_sub hl [0, 1] rfl)
  exact loop1 (7 + 1) 0 cL (by omega) (by omega) rfl _ _ _ hW (lv_sub hl [0, 1] rfl)

section
variable {l : Launch} {g : GG} {Γ : Nat → Nat} {x0 m0 n nv np : Nat} {fb : Nat → Int32}
/-- whether plan makes one -/
def plN (nv np : Nat) (x : Int32) : Prop := (∃ i : Nat, i < nv ∧ x = nI i) ∧ np < 12
theorem plN_bad {nv np : Nat} {x : Int32} (hnv : nv ≤ 10) (h : x < 0 ∨ nI nv ≤ x) : ¬ plN nv np x := fun ⟨⟨i, hi, e⟩, _⟩ => by
  subst e
  rcases h with h | h
  · exact nI_nn (by omega) h
  · have := (nI_leI (a := nv) (b := i) (by omega) (by omega)).mp h
    omega
set_option maxHeartbeats 8000000 in
theorem E11_plan (hU : UQ TS0 Γ) (hnv : nv ≤ 10) (hnp : np ≤ 12) (tx : Γ x0 = 1) (p0 : Int32) : EG l g yX11_plan cX11_plan 3 3 8 289 x0 m0 Γ [.ref x0, .int p0] (RC1 g x0 n fb nv np) (fun H v H1 => ((plN nv np p0 ∧ v = .int (nI np) ∧ RC1 g x0 n fb nv (np + 1) H1) ∨ (¬ plN nv np p0 ∧ v = .int (-1) ∧ RC1 g x0 n fb nv np H1)) ∧ ∀ q : Nat, Γ q = 60 ∨ Γ q = 61 → H1[q]? = H[q]?) :=
  EG_of (GX11_plan l g x0 m0 p0) hU fun H hT hLF hR => by
    obtain ⟨t0, tq, va, pa, sp, fA, fB, ⟨e0, eq, ea, ep, es⟩, h0, h1, h2, h3, h4, h5, h6, h7, h8, h9, h10, h11, h12, h13⟩ := hR.tags hT tx
    obtain ⟨c3, c4, c5, c6, c7, c8, c9, cc, A0⟩ := DV1 hT tx h0 h1 h2 h3 h4 h5
    have lt : ∀ {q t : Nat}, Γ q = t → t ≠ 0 → q < H.size := fun h h0 => hT.lt (by rw [h]; exact h0)
    have tg2 : ([(x0, .inr (11, [.ref t0, .ref va, .ref pa, .ref c3, .ref c4, .ref c5, .ref c6, .ref c7, .ref c8, .ref c9, .ref sp, .int (nI nv), .int (nI np), .int cc])), (va, .inl (g.2.1 4, 10, .inr (.inr (.inr (.inr fA)))))] : va_W).map (fun w => Γ w.1) = [1, 20] := by show [Γ x0, Γ va] = _; rw [tx, ea]
    have no : ∀ {H1 : Heap} {post : Int32 → va_W → Prop}, ¬ plN nv np p0 → ∀ {x : Int32}, x = -1 → va_P g.1 CLS [(x0, .inr (11, [.ref t0, .ref va, .ref pa, .ref c3, .ref c4, .ref c5, .ref c6, .ref c7, .ref c8, .ref c9, .ref sp, .int (nI nv), .int (nI np), .int cc])), (va, .inl (g.2.1 4, 10, .inr (.inr (.inr (.inr fA)))))] H1 → (∀ q : Nat, q < H.size → ¬ va_A [(x0, .inr (11, [.ref t0, .ref va, .ref pa, .ref c3, .ref c4, .ref c5, .ref c6, .ref c7, .ref c8, .ref c9, .ref sp, .int (nI nv), .int (nI np), .int cc])), (va, .inl (g.2.1 4, 10, .inr (.inr (.inr (.inr fA)))))] H.size q → H1[q]? = H[q]?) → ((plN nv np p0 ∧ Value.int x = .int (nI np) ∧ RC1 g x0 n fb nv (np + 1) H1) ∨ (¬ plN nv np p0 ∧ Value.int x = .int (-1) ∧ RC1 g x0 n fb nv np H1)) ∧ ∀ q : Nat, Γ q = 60 ∨ Γ q = 61 → H1[q]? = H[q]? := fun {H1 post} hno {x} hx hP hk => by
      have Y0 := hP 0 _ rfl
      have kp : ∀ {q t : Nat}, Γ q = t → t ≠ 0 → ([1, 20].any fun u => Nat.beq u t) = false → H1[q]? = H[q]? := fun {q t} h h0 h1 => hk q (lt h h0) (nin_tag tg2 h h1 (lt h h0))
      refine ⟨Or.inr ⟨hno, congrArg Value.int hx, t0, tq, va, pa, sp, fA, fB, FE_at (k := 0) Y0 rfl (by decide) rfl, FE_at (k := 1) Y0 rfl (by decide) rfl, FE_at (k := 2) Y0 rfl (by decide) rfl, FE_at (k := 10) Y0 rfl (by decide) rfl, FE_at (k := 11) Y0 rfl (by decide) rfl, FE_at (k := 12) Y0 rfl (by decide) rfl, FE_kept h6 (kp e0 (by decide) (by decide)), FE_kept h7 (kp e0 (by decide) (by decide)), h8.kept (kp eq (by decide) (by decide)), hP 1 _ rfl, h10, h11.kept (kp ep (by decide) (by decide)), h12, fun j hj => FE_kept (h13 j hj) (kp es (by decide) (by decide))⟩, fun q hq => ?_⟩
      rcases hq with h | h
      · exact kp h (by decide) (by decide)
      · exact kp h (by decide) (by decide)
    rcases vin_cases (n := nv) (by omega) p0 with hb | ⟨i, hi, rfl⟩
    · refine ⟨0, 0, _, _, MetI.grow (K_X11_plan0 l g x0 t0 va pa c3 c4 c5 c6 c7 c8 c9 sp nv np cc fA p0 hb) (by decide) (Nat.zero_le _) (Nat.zero_le _) _, vaP_cons A0 (vaP_cons h9 vaP_nil), D_tags tg2 (by decide) (by decide), fun x u H1 hp hP hz hk => ?_⟩
      obtain ⟨hx, rfl⟩ := hp
      exact no (post := fun _ _ => True) (plN_bad hnv hb) hx hP hk
    · obtain ⟨v, hv⟩ := h10 i hi
      by_cases h12' : np = 12
      · refine ⟨0, 0, _, _, MetI.grow (C_X11_plan0b l g x0 t0 va pa c3 c4 c5 c6 c7 c8 c9 sp nv np cc fA i v hi hnv hv h12') (by decide) (Nat.zero_le _) (Nat.zero_le _) _, vaP_cons A0 (vaP_cons h9 vaP_nil), D_tags tg2 (by decide) (by decide), fun x u H1 hp hP hz hk => ?_⟩
        obtain ⟨hx, rfl⟩ := hp
        exact no (post := fun _ _ => True) (fun h => absurd h.2 (by omega)) hx hP hk
      · have tg : ([(x0, .inr (11, [.ref t0, .ref va, .ref pa, .ref c3, .ref c4, .ref c5, .ref c6, .ref c7, .ref c8, .ref c9, .ref sp, .int (nI nv), .int (nI np), .int cc])), (va, .inl (g.2.1 4, 10, .inr (.inr (.inr (.inr fA))))), (pa, .inl (g.2.1 5, 12, .inr (.inr (.inr (.inr fB)))))] : va_W).map (fun w => Γ w.1) = [1, 20, 21] := by show [Γ x0, Γ va, Γ pa] = _; rw [tx, ea, ep]
        refine ⟨8, 289, _, _, MetI.grow (C_X11_plan1 l g x0 t0 va pa c3 c4 c5 c6 c7 c8 c9 sp nv np cc fA fB i v hi hnv hv (by omega)) (by decide) (Nat.le_refl _) (Nat.le_refl _) _, vaP_cons A0 (vaP_cons h9 (vaP_cons h11 vaP_nil)), D_tags tg (by decide) (by decide), fun x u H1 hp hP hz hk => ?_⟩
        obtain ⟨z, rfl, rfl⟩ := hp
        have Y0 := hP 0 _ rfl
        have kp : ∀ {q t : Nat}, Γ q = t → t ≠ 0 → ([1, 20, 21].any fun u => Nat.beq u t) = false → H1[q]? = H[q]? := fun {q t} h h0 h1 => hk q (lt h h0) (nin_tag tg h h1 (lt h h0))
        refine ⟨Or.inl ⟨⟨⟨i, hi, rfl⟩, by omega⟩, rfl, t0, tq, va, pa, sp, fA, va_up fB np (some z), FE_at (k := 0) Y0 rfl (by decide) rfl, FE_at (k := 1) Y0 rfl (by decide) rfl, FE_at (k := 2) Y0 rfl (by decide) rfl, FE_at (k := 10) Y0 rfl (by decide) rfl, FE_at (k := 11) Y0 rfl (by decide) rfl, FE_at (k := 12) Y0 rfl (by decide) rfl, FE_kept h6 (kp e0 (by decide) (by decide)), FE_kept h7 (kp e0 (by decide) (by decide)), h8.kept (kp eq (by decide) (by decide)), hP 1 _ rfl, h10, hP 2 _ rfl, fun j hj => ?_, fun j hj => FE_kept (h13 j hj) (kp es (by decide) (by decide))⟩, fun q hq => ?_⟩
        · by_cases hj2 : j = np
          · exact ⟨z, by rw [hj2]; exact va_up_self _ _ _⟩
          · rw [va_up_ne _ _ hj2]; exact h12 j (by omega)
        · rcases hq with h | h
          · exact kp h (by decide) (by decide)
          · exact kp h (by decide) (by decide)
theorem at_fe {g : GG} {H : Heap} {q ci k : Nat} {vs : List Value} {r : vw_C} {v : Value} (h : va_at g.1 CLS (q, .inr (ci, vs)) H) (hr : CLS[ci]? = some r) (hk : k < vs.length) (hF : FE g q ci k H v) : vs[k]? = some v := by
  obtain ⟨us, r2, a1, a2, a3, a4⟩ := hF
  have e : vs[k]? = some (vs[k]'hk) := List.getElem?_eq_getElem hk
  have := FE_fun ⟨us, r2, a1, a2, a3, a4⟩ (FE_at h a2 a3 e)
  rw [e, this]
theorem sv4 {vs : List Value} {a b c d : Value} {j : Nat} {u : Value} (h : vs[j]? = some u) (h0 : j ≠ 0) (h3 : j ≠ 3) (h4 : j ≠ 4) (h5 : j ≠ 5) : ((((vs.set 0 a).set 3 b).set 4 c).set 5 d)[j]? = some u :=
  sv_ne (Ne.symm h5) (sv_ne (Ne.symm h4) (sv_ne (Ne.symm h3) (sv_ne (Ne.symm h0) h)))
theorem sv6 {vs : List Value} {a b c d e f : Value} {j : Nat} {u : Value} (h : vs[j]? = some u) (h0 : j ≠ 0) (h2 : j ≠ 2) (h3 : j ≠ 3) (h4 : j ≠ 4) (h5 : j ≠ 5) (h18 : j ≠ 18) : ((((((vs.set 0 a).set 3 b).set 4 c).set 5 d).set 2 e).set 18 f)[j]? = some u :=
  sv_ne (Ne.symm h18) (sv_ne (Ne.symm h2) (sv_ne (Ne.symm h5) (sv_ne (Ne.symm h4) (sv_ne (Ne.symm h3) (sv_ne (Ne.symm h0) h)))))
set_option maxHeartbeats 8000000 in
theorem E12_valley (hn : n ≤ 400) (hU : UQ TS0 Γ) (hnv : nv ≤ 10) (tm : Γ m0 = 60) : EX l g yX12_valley cX12_valley 2 (some .int) pX12_valley_0 Γ [.ref m0] (RR1 g m0 n fb nv np) (fun _ v H1 => (vlN n nv (ub fb) ∧ v = .int (nI nv) ∧ RR1 g m0 0 fb (nv + 1) np H1) ∨ (¬ vlN n nv (ub fb) ∧ v = .int (-1) ∧ RR1 g m0 n fb nv np H1)) :=
  EX_of (SX12_valley_0 l g) hU ⟨av_ref tm (by decide), trivial⟩ rfl fun H hT hR => by
    obtain ⟨tr, er, h1, h2, h3, h4, h5⟩ := hR.tags hT tm
    obtain ⟨ws, A0, hv⟩ := h_obj hT (by rw [tm]; decide) ((congrArg TS0.1 tm).trans rfl)
    have hk := KV_of hv
    have hlen := KV_len hk
    have F1 := at_fe (k := 1) A0 rfl (by rw [hlen]; decide) h1
    have F2 := at_fe (k := 2) A0 rfl (by rw [hlen]; decide) h2
    have F18 := at_fe (k := 18) A0 rfl (by rw [hlen]; decide) h3
    have F27 := at_fe (k := 27) A0 rfl (by rw [hlen]; decide) h4
    obtain ⟨w6, F6, a6⟩ := hv.get (k := 6) rfl
    obtain ⟨b6, rfl, t6, -⟩ := avi_ref rfl a6
    have t6 : Γ b6 = 62 := t6
    obtain ⟨w7, F7, a7⟩ := hv.get (k := 7) rfl
    obtain ⟨b7, rfl, t7, -⟩ := avi_ref rfl a7
    have t7 : Γ b7 = 63 := t7
    obtain ⟨w8, F8, a8⟩ := hv.get (k := 8) rfl
    obtain ⟨b8, rfl, t8, -⟩ := avi_ref rfl a8
    have t8 : Γ b8 = 64 := t8
    obtain ⟨w9, F9, a9⟩ := hv.get (k := 9) rfl
    obtain ⟨b9, rfl, t9, -⟩ := avi_ref rfl a9
    have t9 : Γ b9 = 65 := t9
    obtain ⟨w10, F10, a10⟩ := hv.get (k := 10) rfl
    obtain ⟨b10, rfl, t10, -⟩ := avi_ref rfl a10
    have t10 : Γ b10 = 120 := t10
    obtain ⟨w11, F11, a11⟩ := hv.get (k := 11) rfl
    obtain ⟨b11, rfl, t11, -⟩ := avi_ref rfl a11
    have t11 : Γ b11 = 121 := t11
    obtain ⟨w12, F12, a12⟩ := hv.get (k := 12) rfl
    obtain ⟨b12, rfl, t12, -⟩ := avi_ref rfl a12
    have t12 : Γ b12 = 66 := t12
    obtain ⟨w13, F13, a13⟩ := hv.get (k := 13) rfl
    obtain ⟨b13, rfl, t13, -⟩ := avi_ref rfl a13
    have t13 : Γ b13 = 122 := t13
    obtain ⟨w14, F14, a14⟩ := hv.get (k := 14) rfl
    obtain ⟨b14, rfl, t14, -⟩ := avi_ref rfl a14
    have t14 : Γ b14 = 67 := t14
    obtain ⟨w15, F15, a15⟩ := hv.get (k := 15) rfl
    obtain ⟨b15, rfl, t15, -⟩ := avi_ref rfl a15
    have t15 : Γ b15 = 123 := t15
    obtain ⟨w16, F16, a16⟩ := hv.get (k := 16) rfl
    obtain ⟨b16, rfl, t16, -⟩ := avi_ref rfl a16
    have t16 : Γ b16 = 68 := t16
    obtain ⟨w17, F17, a17⟩ := hv.get (k := 17) rfl
    obtain ⟨b17, rfl, t17, -⟩ := avi_ref rfl a17
    have t17 : Γ b17 = 69 := t17
    obtain ⟨w53, F53, a53⟩ := hv.get (k := 53) rfl
    obtain ⟨b53, rfl, t53, -⟩ := avi_ref rfl a53
    have t53 : Γ b53 = 89 := t53
    obtain ⟨w61, F61, a61⟩ := hv.get (k := 61) rfl
    obtain ⟨b61, rfl, t61, -⟩ := avi_ref rfl a61
    have t61 : Γ b61 = 96 := t61
    obtain ⟨f6, B6⟩ := ints_of hT t6 (by decide) rfl
    obtain ⟨f7, B7⟩ := ints_of hT t7 (by decide) rfl
    obtain ⟨f8, B8⟩ := ints_of hT t8 (by decide) rfl
    obtain ⟨f9, B9⟩ := ints_of hT t9 (by decide) rfl
    obtain ⟨f10, B10⟩ := ints_of hT t10 (by decide) rfl
    obtain ⟨f11, B11⟩ := ints_of hT t11 (by decide) rfl
    obtain ⟨f12, B12⟩ := ints_of hT t12 (by decide) rfl
    obtain ⟨f13, B13⟩ := ints_of hT t13 (by decide) rfl
    obtain ⟨f14, B14⟩ := ints_of hT t14 (by decide) rfl
    obtain ⟨f15, B15⟩ := ints_of hT t15 (by decide) rfl
    obtain ⟨f16, B16⟩ := ints_of hT t16 (by decide) rfl
    obtain ⟨f17, B17, -⟩ := h_ints (g := g) (k := 3) (n := 132) (a := vi 0 1) (by decide) hT (by rw [t17]; decide) ((congrArg TS0.1 t17).trans rfl)
    obtain ⟨f53, B53⟩ := ints_of hT t53 (by decide) rfl
    obtain ⟨f61, B61⟩ := ints_of hT t61 (by decide) rfl
    obtain ⟨w5, F5, a5⟩ := hv.get (k := 5) rfl
    obtain ⟨i5, rfl, -⟩ := avi_int rfl a5
    by_cases h10 : nv = 10
    · refine ⟨0, _, _, by decide, K_X12_valleyF l g m0 ws nv hlen F18 h10, vaP_cons A0 vaP_nil, D_tags (tl := [60]) (by show [Γ m0] = _; rw [tm]) (by decide) (by decide), fun x u H1 hp hP hz hk hT1 hun => ?_⟩
      obtain ⟨rfl, rfl⟩ := hp
      have Y0 := hP 0 _ rfl
      refine Or.inr ⟨fun h => absurd h.1 (by omega), rfl, tr, FE_at (k := 1) Y0 rfl (by decide) (sv_ne (by decide) F1), FE_at (k := 2) Y0 rfl (by decide) (sv_ne (by decide) F2), FE_at (k := 18) Y0 rfl (by decide) (sv_ne (by decide) F18), FE_at (k := 27) Y0 rfl (by decide) (sv_ne (by decide) F27), h5.kept (hun.arr er (by decide) rfl rfl)⟩
    · have hnv9 : nv < 10 := by omega
      by_cases hg : ¬ (rdv n (ub fb) nv f6 (0, i5, f7, f8, f9, f10, f11, f12, f13, f14, f15, f16, f17)).1 = 0
      · refine ⟨6, _, _, by decide, K_X12_valley1 l g m0 ws tr b6 b7 b8 b9 b10 b11 b12 b13 b14 b15 b16 b17 fb n nv f6 (0, i5, f7, f8, f9, f10, f11, f12, f13, f14, f15, f16, f17) b53 f53 b61 f61 hk hn hnv F2 F5 F18 F1 F6 F7 F8 F9 F10 F11 F12 F13 F14 F15 F16 F17 F53 F61 hnv9 hg, vaP_cons A0 (vaP_cons h5 (vaP_cons B6 (vaP_cons B7 (vaP_cons B8 (vaP_cons B9 (vaP_cons B10 (vaP_cons B11 (vaP_cons B12 (vaP_cons B13 (vaP_cons B14 (vaP_cons B15 (vaP_cons B16 (vaP_cons B17 (vaP_cons B53 (vaP_cons B61 vaP_nil))))))))))))))), D_tags (tl := [60, 61, 62, 63, 64, 65, 120, 121, 66, 122, 67, 123, 68, 69, 89, 96]) (by show [Γ m0, Γ tr, Γ b6, Γ b7, Γ b8, Γ b9, Γ b10, Γ b11, Γ b12, Γ b13, Γ b14, Γ b15, Γ b16, Γ b17, Γ b53, Γ b61] = _; rw [tm, er, t6, t7, t8, t9, t10, t11, t12, t13, t14, t15, t16, t17, t53, t61]) (by decide) (by decide), fun x u H1 hp hP hz hk hT1 hun => ?_⟩
        obtain ⟨hx, rfl⟩ := hp
        have Y0 := hP 0 _ rfl
        refine Or.inl ⟨⟨hnv9, (rdv_ok1 _ _ hn hnv).mp hg⟩, congrArg Value.int (hx.trans (congrArg nI (by omega))), tr, FE_at (k := 1) Y0 rfl (by decide) (sv6 F1 (by decide) (by decide) (by decide) (by decide) (by decide) (by decide)), FE_at (k := 2) Y0 rfl (by decide) (sv_ne (by decide) (sv_eq (n := 64) (by decide) (sv_len (sv_len (sv_len (sv_len hlen)))))), FE_at (k := 18) Y0 rfl (by decide) (sv_eq (n := 64) (by decide) (sv_len (sv_len (sv_len (sv_len (sv_len hlen)))))), FE_at (k := 27) Y0 rfl (by decide) (sv6 F27 (by decide) (by decide) (by decide) (by decide) (by decide) (by decide)), hP 1 _ rfl⟩
      · refine ⟨6, _, _, by decide, C_X12_valley0 l g m0 ws tr b6 b7 b8 b9 b10 b11 b12 b13 b14 b15 b16 b17 fb n nv f6 (0, i5, f7, f8, f9, f10, f11, f12, f13, f14, f15, f16, f17) hk hn hnv F2 F5 F18 F1 F6 F7 F8 F9 F10 F11 F12 F13 F14 F15 F16 F17 hnv9 hg, vaP_cons A0 (vaP_cons h5 (vaP_cons B6 (vaP_cons B7 (vaP_cons B8 (vaP_cons B9 (vaP_cons B10 (vaP_cons B11 (vaP_cons B12 (vaP_cons B13 (vaP_cons B14 (vaP_cons B15 (vaP_cons B16 (vaP_cons B17 vaP_nil))))))))))))), D_tags (tl := [60, 61, 62, 63, 64, 65, 120, 121, 66, 122, 67, 123, 68, 69]) (by show [Γ m0, Γ tr, Γ b6, Γ b7, Γ b8, Γ b9, Γ b10, Γ b11, Γ b12, Γ b13, Γ b14, Γ b15, Γ b16, Γ b17] = _; rw [tm, er, t6, t7, t8, t9, t10, t11, t12, t13, t14, t15, t16, t17]) (by decide) (by decide), fun x u H1 hp hP hz hk hT1 hun => ?_⟩
        obtain ⟨rfl, rfl⟩ := hp
        have Y0 := hP 0 _ rfl
        refine Or.inr ⟨fun h => hg ((rdv_ok1 _ _ hn hnv).mpr h.2), rfl, tr, FE_at (k := 1) Y0 rfl (by decide) (sv4 F1 (by decide) (by decide) (by decide) (by decide)), FE_at (k := 2) Y0 rfl (by decide) (sv4 F2 (by decide) (by decide) (by decide) (by decide)), FE_at (k := 18) Y0 rfl (by decide) (sv4 F18 (by decide) (by decide) (by decide) (by decide)), FE_at (k := 27) Y0 rfl (by decide) (sv4 F27 (by decide) (by decide) (by decide) (by decide)), hP 1 _ rfl⟩
theorem rv_plN {nv np : Nat} {x : Int32} (hnv : nv ≤ 10) (h : ¬ plN nv np x) : np = 12 ∨ ¬ np < 12 ∨ F_X12_isValley nv x = 0 := by
  by_cases h12 : np < 12
  · refine Or.inr (Or.inr ?_)
    rcases vin_cases (n := nv) (by omega) x with hb | ⟨i, hi, rfl⟩
    · exact rv_no hb
    · exact absurd ⟨⟨i, hi, rfl⟩, h12⟩ h
  · exact Or.inr (Or.inl h12)
set_option maxHeartbeats 8000000 in
theorem E12_plan (hU : UQ TS0 Γ) (hnv : nv ≤ 10) (hnp : np ≤ 12) (tm : Γ m0 = 60) (p0 : Int32) : EX l g yX12_plan cX12_plan 2 (some .int) pX12_plan_0 Γ [.ref m0, .int p0] (RR1 g m0 n fb nv np) (fun _ v H1 => (plN nv np p0 ∧ v = .int (nI np) ∧ RR1 g m0 n fb nv (np + 1) H1) ∨ (¬ plN nv np p0 ∧ v = .int (-1) ∧ RR1 g m0 n fb nv np H1)) :=
  EX_of (SX12_plan_0 l g) hU ⟨av_ref tm (by decide), avi_top _, trivial⟩ rfl fun H hT hR => by
    obtain ⟨tr, er, h1, h2, h3, h4, h5⟩ := hR.tags hT tm
    obtain ⟨ws, A0, hv⟩ := h_obj hT (by rw [tm]; decide) ((congrArg TS0.1 tm).trans rfl)
    have hk := KV_of hv
    have hlen := KV_len hk
    have F1 := at_fe (k := 1) A0 rfl (by rw [hlen]; decide) h1
    have F2 := at_fe (k := 2) A0 rfl (by rw [hlen]; decide) h2
    have F18 := at_fe (k := 18) A0 rfl (by rw [hlen]; decide) h3
    have F27 := at_fe (k := 27) A0 rfl (by rw [hlen]; decide) h4
    obtain ⟨w21, F21, a21⟩ := hv.get (k := 21) rfl
    obtain ⟨b21, rfl, t21, -⟩ := avi_ref rfl a21
    have t21 : Γ b21 = 70 := t21
    obtain ⟨w22, F22, a22⟩ := hv.get (k := 22) rfl
    obtain ⟨b22, rfl, t22, -⟩ := avi_ref rfl a22
    have t22 : Γ b22 = 71 := t22
    obtain ⟨f21, B21⟩ := ints_of hT t21 (by decide) rfl
    obtain ⟨f22, B22⟩ := ints_of hT t22 (by decide) rfl
    by_cases hp : plN nv np p0
    · obtain ⟨⟨i, hi, rfl⟩, h12⟩ := hp
      refine ⟨1, _, _, by decide, K_X12_plan1 l g m0 ws nv np b21 f21 b22 f22 i hlen F18 F27 F21 F22 hnv h12 hi, vaP_cons A0 (vaP_cons B21 (vaP_cons B22 vaP_nil)), D_tags (tl := [60, 70, 71]) (by show [Γ m0, Γ b21, Γ b22] = _; rw [tm, t21, t22]) (by decide) (by decide), fun x u H1 hp hP hz hk hT1 hun => ?_⟩
      obtain ⟨hx, rfl⟩ := hp
      have Y0 := hP 0 _ rfl
      exact Or.inl ⟨⟨⟨i, hi, rfl⟩, h12⟩, congrArg Value.int (hx.trans (congrArg nI (by omega))), tr, FE_at (k := 1) Y0 rfl (by decide) (sv_ne (by decide) (sv_ne (by decide) F1)), FE_at (k := 2) Y0 rfl (by decide) (sv_ne (by decide) (sv_ne (by decide) F2)), FE_at (k := 18) Y0 rfl (by decide) (sv_ne (by decide) (sv_ne (by decide) F18)), FE_at (k := 27) Y0 rfl (by decide) (sv_eq (n := 64) (by decide) (sv_len hlen)), h5.kept (hun.arr er (by decide) rfl rfl)⟩
    · have hb : np = 12 ∨ F_X12_isValley nv p0 = 0 := by
        rcases rv_plN hnv hp with h | h | h
        · exact Or.inl h
        · exact Or.inl (by omega)
        · exact Or.inr h
      refine ⟨1, _, _, by decide, K_X12_plan0 l g m0 ws nv np p0 hlen F18 F27 hnv hnp hb, vaP_cons A0 vaP_nil, D_tags (tl := [60]) (by show [Γ m0] = _; rw [tm]) (by decide) (by decide), fun x u H1 hpp hP hz hk hT1 hun => ?_⟩
      obtain ⟨hx, rfl⟩ := hpp
      have Y0 := hP 0 _ rfl
      have hx : x = -1 := by
        rw [hx]; unfold F_X12_plan0
        split
        · rfl
        · split <;> rfl
      exact Or.inr ⟨hp, congrArg Value.int hx, tr, FE_at (k := 1) Y0 rfl (by decide) (sv_ne (by decide) F1), FE_at (k := 2) Y0 rfl (by decide) (sv_ne (by decide) F2), FE_at (k := 18) Y0 rfl (by decide) (sv_ne (by decide) F18), FE_at (k := 27) Y0 rfl (by decide) (sv_ne (by decide) F27), h5.kept (hun.arr er (by decide) rfl rfl)⟩
end

/-! rows: forgotten, taken -/
theorem m_750 : (Cond.code yX5_forget prog_7_method_3_code 2 (Option.none : Option Jvm.ClassFile.FieldType)) ∈ BW := bw (tb4 30 (by decide +kernel)) (by decide +kernel)
theorem dX5_forget_0 : decode cX5_forget 0 = .ok (.iconst 0, 1) := by decide +kernel
theorem dX5_forget_1 : decode cX5_forget 1 = .ok (.istore_n 1, 1) := by decide +kernel
theorem dX5_forget_2 : decode cX5_forget 2 = .ok (.iload_n 1, 1) := by decide +kernel
theorem dX5_forget_3 : decode cX5_forget 3 = .ok (.aload_n 0, 1) := by decide +kernel
theorem dX5_forget_4 : decode cX5_forget 4 = .ok (.getfield 25, 3) := by decide +kernel
theorem dX5_forget_7 : decode cX5_forget 7 = .ok (.if_icmp .ge 21, 3) := by decide +kernel
theorem dX5_forget_28 : decode cX5_forget 28 = .ok (.aload_n 0, 1) := by decide +kernel
theorem dX5_forget_29 : decode cX5_forget 29 = .ok (.iconst 0, 1) := by decide +kernel
theorem dX5_forget_30 : decode cX5_forget 30 = .ok (.putfield 25, 3) := by decide +kernel
theorem dX5_forget_33 : decode cX5_forget 33 = .ok (.aload_n 0, 1) := by decide +kernel
theorem dX5_forget_34 : decode cX5_forget 34 = .ok (.iconst 0, 1) := by decide +kernel
theorem dX5_forget_35 : decode cX5_forget 35 = .ok (.putfield 29, 3) := by decide +kernel
theorem dX5_forget_38 : decode cX5_forget 38 = .ok (.return_, 1) := by decide +kernel
theorem dX5_forget_10 : decode cX5_forget 10 = .ok (.aload_n 0, 1) := by decide +kernel
theorem dX5_forget_11 : decode cX5_forget 11 = .ok (.getfield 18, 3) := by decide +kernel
theorem dX5_forget_14 : decode cX5_forget 14 = .ok (.aload_n 0, 1) := by decide +kernel
theorem dX5_forget_15 : decode cX5_forget 15 = .ok (.getfield 11, 3) := by decide +kernel
theorem dX5_forget_18 : decode cX5_forget 18 = .ok (.iload_n 1, 1) := by decide +kernel
theorem dX5_forget_19 : decode cX5_forget 19 = .ok (.iaload, 1) := by decide +kernel
theorem dX5_forget_20 : decode cX5_forget 20 = .ok (.iconst 0, 1) := by decide +kernel
theorem dX5_forget_21 : decode cX5_forget 21 = .ok (.bastore, 1) := by decide +kernel
theorem dX5_forget_22 : decode cX5_forget 22 = .ok (.iinc 1 1, 3) := by decide +kernel
theorem dX5_forget_25 : decode cX5_forget 25 = .ok (.goto (-23), 3) := by decide +kernel
theorem m_762 : (Cond.code yX5_take prog_7_method_6_code 5 (Option.none : Option Jvm.ClassFile.FieldType)) ∈ BW := bw (tb4 42 (by decide +kernel)) (by decide +kernel)
theorem dX5_take_0 : decode cX5_take 0 = .ok (.iconst 0, 1) := by decide +kernel
theorem dX5_take_1 : decode cX5_take 1 = .ok (.istore 4, 2) := by decide +kernel
theorem dX5_take_3 : decode cX5_take 3 = .ok (.iload 4, 2) := by decide +kernel
theorem dX5_take_5 : decode cX5_take 5 = .ok (.aload_n 0, 1) := by decide +kernel
theorem dX5_take_6 : decode cX5_take 6 = .ok (.getfield 29, 3) := by decide +kernel
theorem dX5_take_9 : decode cX5_take 9 = .ok (.if_icmp .ge 33, 3) := by decide +kernel
theorem dX5_take_42 : decode cX5_take 42 = .ok (.aload_n 0, 1) := by decide +kernel
theorem dX5_take_43 : decode cX5_take 43 = .ok (.getfield 18, 3) := by decide +kernel
theorem dX5_take_46 : decode cX5_take 46 = .ok (.iload_n 1, 1) := by decide +kernel
theorem dX5_take_47 : decode cX5_take 47 = .ok (.baload, 1) := by decide +kernel
theorem dX5_take_48 : decode cX5_take 48 = .ok (.ifCond .ne 40, 3) := by decide +kernel
theorem dX5_take_88 : decode cX5_take 88 = .ok (.return_, 1) := by decide +kernel
theorem dX5_take_51 : decode cX5_take 51 = .ok (.aload_n 0, 1) := by decide +kernel
theorem dX5_take_52 : decode cX5_take 52 = .ok (.getfield 18, 3) := by decide +kernel
theorem dX5_take_55 : decode cX5_take 55 = .ok (.iload_n 1, 1) := by decide +kernel
theorem dX5_take_56 : decode cX5_take 56 = .ok (.iconst 1, 1) := by decide +kernel
theorem dX5_take_57 : decode cX5_take 57 = .ok (.bastore, 1) := by decide +kernel
theorem dX5_take_58 : decode cX5_take 58 = .ok (.aload_n 0, 1) := by decide +kernel
theorem dX5_take_59 : decode cX5_take 59 = .ok (.getfield 11, 3) := by decide +kernel
theorem dX5_take_62 : decode cX5_take 62 = .ok (.aload_n 0, 1) := by decide +kernel
theorem dX5_take_63 : decode cX5_take 63 = .ok (.getfield 25, 3) := by decide +kernel
theorem dX5_take_66 : decode cX5_take 66 = .ok (.iload_n 1, 1) := by decide +kernel
theorem dX5_take_67 : decode cX5_take 67 = .ok (.iastore, 1) := by decide +kernel
theorem dX5_take_68 : decode cX5_take 68 = .ok (.aload_n 0, 1) := by decide +kernel
theorem dX5_take_69 : decode cX5_take 69 = .ok (.getfield 15, 3) := by decide +kernel
theorem dX5_take_72 : decode cX5_take 72 = .ok (.aload_n 0, 1) := by decide +kernel
theorem dX5_take_73 : decode cX5_take 73 = .ok (.getfield 25, 3) := by decide +kernel
theorem dX5_take_76 : decode cX5_take 76 = .ok (.iload_n 3, 1) := by decide +kernel
theorem dX5_take_77 : decode cX5_take 77 = .ok (.iastore, 1) := by decide +kernel
theorem dX5_take_78 : decode cX5_take 78 = .ok (.aload_n 0, 1) := by decide +kernel
theorem dX5_take_79 : decode cX5_take 79 = .ok (.dup, 1) := by decide +kernel
theorem dX5_take_80 : decode cX5_take 80 = .ok (.getfield 25, 3) := by decide +kernel
theorem dX5_take_83 : decode cX5_take 83 = .ok (.iconst 1, 1) := by decide +kernel
theorem dX5_take_84 : decode cX5_take 84 = .ok (.iadd, 1) := by decide +kernel
theorem dX5_take_85 : decode cX5_take 85 = .ok (.putfield 25, 3) := by decide +kernel
theorem dX5_take_12 : decode cX5_take 12 = .ok (.iload_n 2, 1) := by decide +kernel
theorem dX5_take_13 : decode cX5_take 13 = .ok (.iload 4, 2) := by decide +kernel
theorem m_763 : (Cond.methodLinkNest "NoonValley$Rows" 36 yX11_has "NoonValley") ∈ NWS := nw (tb4 43 (by decide +kernel)) (by decide +kernel)
theorem vX5_36 : LSN RX5 36 "NoonValley" yX11_has cX11_has 2 (some .boolean) 2 := ⟨m_763, m_487, m_1, m_488, by decide, by decide, by decide +kernel⟩
theorem dX5_take_15 : decode cX5_take 15 = .ok (.invokestatic 36, 3) := by decide +kernel
theorem dX5_take_18 : decode cX5_take 18 = .ok (.ifCond .eq 18, 3) := by decide +kernel
theorem dX5_take_36 : decode cX5_take 36 = .ok (.iinc 4 1, 3) := by decide +kernel
theorem dX5_take_39 : decode cX5_take 39 = .ok (.goto (-36), 3) := by decide +kernel
theorem dX5_take_21 : decode cX5_take 21 = .ok (.aload_n 0, 1) := by decide +kernel
theorem dX5_take_22 : decode cX5_take 22 = .ok (.getfield 22, 3) := by decide +kernel
theorem dX5_take_25 : decode cX5_take 25 = .ok (.iload 4, 2) := by decide +kernel
theorem dX5_take_27 : decode cX5_take 27 = .ok (.iaload, 1) := by decide +kernel
theorem dX5_take_28 : decode cX5_take 28 = .ok (.iload_n 1, 1) := by decide +kernel
theorem dX5_take_29 : decode cX5_take 29 = .ok (.iconst (-1), 1) := by decide +kernel
theorem dX5_take_30 : decode cX5_take 30 = .ok (.ixor, 1) := by decide +kernel
theorem dX5_take_31 : decode cX5_take 31 = .ok (.iand, 1) := by decide +kernel
theorem dX5_take_32 : decode cX5_take 32 = .ok (.ifCond .eq 4, 3) := by decide +kernel
theorem dX5_take_35 : decode cX5_take 35 = .ok (.return_, 1) := by decide +kernel
noncomputable def pX5_forget_h0 : SPEC := (1, [vr 7], vk 7, [], [(7, 3), (7, 5), (46, 0)], [])
noncomputable def pX5_take_h0 : SPEC := (2, [vr 7, vi 0 127, vi 0 127, itop], vk 7, [], [(7, 3), (44, 0), (45, 0), (46, 0)], [])
theorem bnd46 {g : GG} {Γ : Nat → Nat} {H : Heap} {q : Nat} {m : Nat → Int32} (hT : HT g TSx Γ H) (hq : Γ q = 46) (hA : AT g 3 128 q m H) : ∀ j : Nat, j < 128 → avi g Γ (vi 0 1) (.int (m j)) := fun j hj => by
  obtain ⟨f, h1, h2⟩ := h_ints (ts := TSx) (Or.inr (Or.inr rfl)) hT (by rw [hq]; decide) ((congrArg TSx.1 hq).trans rfl)
  rw [(AT_fun hA h1 hj).2]
  exact h2 j hj
set_option maxHeartbeats 4000000 in
set_option maxRecDepth 100000 in
theorem SX5_forget_h0 (l : Launch) (g : GG) : SM l g TS0 yX5_forget cX5_forget 2 none pX5_forget_h0 := by
  refine SM_hand (own := RX5) rfl (by decide) (by decide) ?_
  intro p e s m below meth c Γ As ls Q hU hV hQ X hr hI hPF hl
  have hx := X.1
  have hb := X.2.1
  obtain ⟨v1, rfl, w1⟩ := VR1 (show VR g Γ [_] As from hV)
  obtain ⟨q1, rfl, t_q1, z_q1⟩ := avi_ref rfl w1
  have t_q1 : Γ q1 = 7 := t_q1
  have hl : lv_has ls 2 [(0, .ref q1)] := hl
  obtain ⟨V1, V2, V3⟩ := hI.1.2.1 rfl
  obtain ⟨e44, e46, G0, G2, n9, f9, m9, G3, hn9, A44, A46, c1, c2, c3⟩ := V3 q1 t_q1
  generalize esq : q1 + 1 = sq at e44 G0 A44
  generalize emq : q1 + 3 = mq at e46 G2 A46
  have t_sq := e44
  have t_mq := e46
  have z_sq : Γ sq ≠ 0 := by rw [t_sq]; decide
  have z_mq : Γ mq ≠ 0 := by rw [t_mq]; decide
  have hI := HI_x hI
  refine lv_iconst (v := 0) (pc := 0) hx hb dX5_forget_0 (by decide) ?_
  refine lv_istore_n (lv' := [(1, .int 0), (0, .ref q1)]) (pc := 1) hx hb dX5_forget_1 rfl hl (by decide) rfl (fun ls hl => ?_)
  have loopA : ∀ (n : Nat) (i : Nat) (m2 : Nat → Int32), (i + n = 129) → (i ≤ n9) → (∀ x : Nat, x < 128 → (¬ m2 x = 0 ↔ ∃ j : Nat, i ≤ j ∧ j < n9 ∧ f9 j = nI x)) → ∀ (H : Heap) (locs : List Loc) (ls : Array Slot), HI g TSx Γ pX5_forget_h0.2.2.2.2.1 s H locs → (FE g q1 5 0 H (.ref sq)) → (FE g q1 5 2 H (.ref mq)) → (FE g q1 5 3 H (.int (nI n9))) → (AT g 1 128 sq f9 H) → (AT g 3 128 mq m2 H) → lv_has ls 2 [(0, .ref q1), (1, .int (nI i))] → W p l e (RM 1 0 0) s m [Value.ref q1].toArray below meth c H locs 0 0 Q (F0 m 2 ls []) := by
    intro n
    induction n with
    | zero =>
      intro i m2 h1 h2 hm H locs ls hI G0 G2 G3 A44 A46 hl
      omega
    | succ n ihA =>
      intro i m2 h1 h2 hm H locs ls hI G0 G2 G3 A44 A46 hl
      refine lv_iload_n (pc := 2) hx hb dX5_forget_2 rfl (lv_at hl 1 rfl) ?_
      refine lv_aload_n (pc := 3) hx hb dX5_forget_3 rfl (lv_at hl 0 rfl) ?_
      refine h_get (pc := 4) X hI.1 (hFX5 25 _ rfl) z_q1 ((congrArg TSx.1 t_q1).trans rfl) rfl dX5_forget_4 (fun vhv2 hv2 hEhv2 => ?_)
      obtain rfl := FE_fun hEhv2 G3
      refine lv_icmp_ge (tgt := 28) (pc := 7) hx hb dX5_forget_7 rfl (fun c9 => ?_) (fun c9 => ?_)
      · have i9 : n9 ≤ i := (nI_leI (by omega) (by omega)).mp c9
        refine lv_aload_n (pc := 28) hx hb dX5_forget_28 rfl (lv_at hl 0 rfl) ?_
        refine lv_iconst (v := 0) (pc := 29) hx hb dX5_forget_29 (by decide) ?_
        refine h_putG (pc := 30) (b := vi 0 0) X hI (hFX5 25 _ rfl) z_q1 ((congrArg TSx.1 t_q1).trans rfl) rfl rfl (avi_nI (lo := 0) (hi := 0) (k := 0) (by decide) (by decide) (by decide)) (by decide) (by decide) (by rw [t_q1]; decide) (fun _ _ _ => INVx) dX5_forget_30 (fun H locs hI hUn G3 => ?_)
        rw [t_q1] at hUn
        have G0 := hUn.fld t_q1 (by decide) rfl (by decide) G0
        have G2 := hUn.fld t_q1 (by decide) rfl (by decide) G2
        have A44 := A44.kept (hUn.arr t_sq (by decide) rfl (by decide))
        have A46 := A46.kept (hUn.arr t_mq (by decide) rfl (by decide))
        refine lv_aload_n (pc := 33) hx hb dX5_forget_33 rfl (lv_at hl 0 rfl) ?_
        refine lv_iconst (v := 0) (pc := 34) hx hb dX5_forget_34 (by decide) ?_
        refine h_put (pc := 35) (b := vi 0 7) X hI (hFX5 29 _ rfl) z_q1 ((congrArg TSx.1 t_q1).trans rfl) rfl rfl (avi_nI (lo := 0) (hi := 7) (k := 0) (by omega) (by omega) (by decide)) (by decide) (by decide) (by rw [t_q1]; decide) dX5_forget_35 (fun H locs hI hUn hEp => ?_)
        rw [t_q1] at hUn
        have G0 := hUn.fld t_q1 (by decide) rfl (by decide) G0
        have G2 := hUn.fld t_q1 (by decide) rfl (by decide) G2
        have G3 := hUn.fld t_q1 (by decide) rfl (by decide) G3
        have A44 := A44.kept (hUn.arr t_sq (by decide) rfl (by decide))
        have A46 := A46.kept (hUn.arr t_mq (by decide) rfl (by decide))
        have hu0 := Un_0 hI.2.2.2.2
        have hI := HI_0 hI (INV0 (V1.keep hu0 (by decide)) (INV2_keep V2 hu0 (by decide)) (fun q9 hq9 => by
          obtain rfl := hU q9 q1 (hq9.trans t_q1.symm) (by rw [hq9]; decide)
          rw [esq, emq]
          exact ⟨t_sq, t_mq, G0, G2, 0, f9, m2, G3, by decide, A44, A46, fun j hj => absurd hj (Nat.not_lt_zero _), fun j _ hj => absurd hj (Nat.not_lt_zero _), fun x hx => (hm x hx).trans ⟨fun ⟨j, j1, j2, _⟩ => by omega, fun ⟨j, j1, _⟩ => absurd j1 (Nat.not_lt_zero _)⟩⟩))
        exact h_vret (pc := 38) X hI hQ hr (Or.inr (Or.inr (Or.inr (Or.inl ⟨rfl, rfl⟩)))) rfl dX5_forget_38
      · have i9 : i < n9 := (nI_ltI (by omega) (by omega)).mp (Int32.not_le.mp c9)
        refine lv_aload_n (pc := 10) hx hb dX5_forget_10 rfl (lv_at hl 0 rfl) ?_
        refine h_get (pc := 11) X hI.1 (hFX5 18 _ rfl) z_q1 ((congrArg TSx.1 t_q1).trans rfl) rfl dX5_forget_11 (fun vhv3 hv3 hEhv3 => ?_)
        obtain rfl := FE_fun hEhv3 G2
        refine lv_aload_n (pc := 14) hx hb dX5_forget_14 rfl (lv_at hl 0 rfl) ?_
        refine h_get (pc := 15) X hI.1 (hFX5 11 _ rfl) z_q1 ((congrArg TSx.1 t_q1).trans rfl) rfl dX5_forget_15 (fun vhv4 hv4 hEhv4 => ?_)
        obtain rfl := FE_fun hEhv4 G0
        refine lv_iload_n (pc := 18) hx hb dX5_forget_18 rfl (lv_at hl 1 rfl) ?_
        obtain ⟨x0, hx0, ex0⟩ := c1 i i9
        refine h_ialdK (pc := 19) X A44 (k := i) (by omega) (by decide) dX5_forget_19 ?_
        rw [ex0]
        refine lv_iconst (v := 0) (pc := 20) hx hb dX5_forget_20 (by decide) ?_
        refine h_stK (pc := 21) (kd := 3) (n := 128) (a := vi 0 1) (k := x0) (x := 0) X hI z_mq (Or.inr ⟨rfl, rfl, by decide, by decide⟩) ((congrArg TSx.1 t_mq).trans rfl) A46 (bnd46 hI.1 t_mq A46) hx0 (by decide) (avi_nI (lo := 0) (hi := 1) (k := 0) (by decide) (by decide) (by decide)) (by rw [t_mq]; decide) (fun _ _ _ _ => INVx) dX5_forget_21 (fun H locs hI A46 _ hUn => ?_)
        rw [t_mq] at hUn
        have G0 := hUn.fld t_q1 (by decide) rfl (by decide) G0
        have G2 := hUn.fld t_q1 (by decide) rfl (by decide) G2
        have G3 := hUn.fld t_q1 (by decide) rfl (by decide) G3
        have A44 := A44.kept (hUn.arr t_sq (by decide) rfl (by decide))
        have hm2 : ∀ x : Nat, x < 128 → (¬ (upd m2 x0 0) x = 0 ↔ ∃ j : Nat, (i + 1) ≤ j ∧ j < n9 ∧ f9 j = nI x) := fun x hx => by
          by_cases e : x = x0
          · subst e
            simp only [upd, if_true]
            refine ⟨fun h => absurd trivial h, fun ⟨j, j1, j2, j3⟩ => ?_⟩
            have := c2 i j i9 j2 (by rw [ex0, j3])
            omega
          · simp only [upd, e, if_false]
            refine (hm x hx).trans ⟨fun ⟨j, j1, j2, j3⟩ => ⟨j, ?_, j2, j3⟩, fun ⟨j, j1, j2, j3⟩ => ⟨j, by omega, j2, j3⟩⟩
            by_cases ej : j = i
            · subst ej
              rw [ex0] at j3
              exact absurd ((nI_eq (by omega) (by omega)).mp j3).symm e
            · omega
        refine lv_iinc (v := nI (i + 1)) (lv' := [(1, .int (nI (i + 1))), (0, .ref q1)]) (pc := 22) hx hb dX5_forget_22 hl (k := 1) rfl ((nI_succ i).symm) (by decide) rfl (fun ls hl => ?_)
        refine lv_goto (tgt := 2) (pc := 25) hx hb dX5_forget_25 rfl ?_
        exact ihA (i + 1) _ (by omega) (by omega) hm2 _ _ _ hI G0 G2 G3 A44 A46 (lv_sub hl [1, 0] rfl)
  exact loopA 129 0 m9 (by decide) (Nat.zero_le _) (fun x hx => (c3 x hx).trans ⟨fun ⟨j, a, b⟩ => ⟨j, Nat.zero_le _, a, b⟩, fun ⟨j, _, a, b⟩ => ⟨j, a, b⟩⟩) _ _ _ hI G0 G2 G3 A44 A46 (lv_sub hl [1, 0] rfl)
set_option maxHeartbeats 4000000 in
set_option maxRecDepth 100000 in
theorem SX5_take_h0 (l : Launch) (g : GG) : SM l g TS0 yX5_take cX5_take 5 none pX5_take_h0 := by
  refine SM_hand (own := RX5) rfl (by decide) (by decide) ?_
  intro p e s m below meth c Γ As ls Q hU hV hQ X hr hI hPF hl
  have hx := X.1
  have hb := X.2.1
  obtain ⟨v1, v2, v3, v4, rfl, w1, w2, w3, w4⟩ := VR4 (show VR g Γ [_, _, _, _] As from hV)
  obtain ⟨q1, rfl, t_q1, z_q1⟩ := avi_ref rfl w1
  have t_q1 : Γ q1 = 7 := t_q1
  obtain ⟨x3, rfl, -⟩ := avi_int rfl w2
  obtain ⟨k2, rfl, lo_k2, hi_k2⟩ := avi_nn (lo := 0) (hi := 127) w2
  obtain ⟨x5, rfl, -⟩ := avi_int rfl w3
  obtain ⟨k4, rfl, lo_k4, hi_k4⟩ := avi_nn (lo := 0) (hi := 127) w3
  obtain ⟨x6, rfl, -⟩ := avi_int rfl w4
  have hl : lv_has ls 5 [(0, .ref q1), (1, .int (nI k2)), (2, .int (nI k4)), (3, .int x6)] := hl
  have hT0 := hI.1
  refine lv_iconst (v := 0) (pc := 0) hx hb dX5_take_0 (by decide) ?_
  refine lv_istore (lv' := [(4, .int 0), (0, .ref q1), (1, .int (nI k2)), (2, .int (nI k4)), (3, .int x6)]) (pc := 1) hx hb dX5_take_1 hl (by decide) rfl (fun ls hl => ?_)
  have loopA : ∀ (n : Nat) (i : Nat), (i + n = 8) → (i ≤ 7) → ∀ (H : Heap) (locs : List Loc) (ls : Array Slot), HI g TS0 Γ pX5_take_h0.2.2.2.2.1 s H locs → lv_has ls 5 [(0, .ref q1), (1, .int (nI k2)), (2, .int (nI k4)), (3, .int x6), (4, .int (nI i))] → W p l e (RM 2 0 0) s m [Value.ref q1, Value.int (nI k2), Value.int (nI k4), Value.int x6].toArray below meth c H locs 0 0 Q (F0 m 3 ls []) := by
    intro n
    induction n with
    | zero =>
      intro i h1 h2 H locs ls hI  hl
      omega
    | succ n ihA =>
      intro i h1 h2 H locs ls hI  hl
      refine lv_iload (pc := 3) hx hb dX5_take_3 (lv_at hl 4 rfl) ?_
      refine lv_aload_n (pc := 5) hx hb dX5_take_5 rfl (lv_at hl 0 rfl) ?_
      refine h_get (pc := 6) X hI.1 (hFX5 29 _ rfl) z_q1 ((congrArg TS0.1 t_q1).trans rfl) rfl dX5_take_6 (fun vhv7 hv7 hEhv7 => ?_)
      obtain ⟨x9, rfl, -⟩ := avi_int rfl hv7
      obtain ⟨k8, rfl, lo_k8, hi_k8⟩ := avi_nn (lo := 0) (hi := 7) hv7
      refine lv_icmp_ge (tgt := 42) (pc := 9) hx hb dX5_take_9 rfl (fun c9 => ?_) (fun c9 => ?_)
      · obtain ⟨V1, V2, V3⟩ := hI.1.2.1 rfl
        have hu1 := hI.2.2.2.2
        obtain ⟨e44, e46, G0, G2, n9, f9, m9, G3, hn9, A44, A46, c1, c2, c3⟩ := V3 q1 t_q1
        generalize esq : q1 + 1 = sq at e44 G0 A44
        generalize emq : q1 + 3 = mq at e46 G2 A46
        have t_sq := e44
        have t_mq := e46
        have z_sq : Γ sq ≠ 0 := by rw [t_sq]; decide
        have z_mq : Γ mq ≠ 0 := by rw [t_mq]; decide
        have hI0 := hI
        have hI := HI_x hI
        refine lv_aload_n (pc := 42) hx hb dX5_take_42 rfl (lv_at hl 0 rfl) ?_
        refine h_get (pc := 43) X hI.1 (hFX5 18 _ rfl) z_q1 ((congrArg TSx.1 t_q1).trans rfl) rfl dX5_take_43 (fun vhv10 hv10 hEhv10 => ?_)
        obtain rfl := FE_fun hEhv10 G2
        refine lv_iload_n (pc := 46) hx hb dX5_take_46 rfl (lv_at hl 1 rfl) ?_
        refine h_baldK (pc := 47) X A46 (k := k2) (by omega) (by decide) dX5_take_47 ?_
        refine lv_if_ne (tgt := 88) (pc := 48) hx hb dX5_take_48 rfl (fun c9 => ?_) (fun c9 => ?_)
        · exact h_vret (pc := 88) X hI0 hQ hr (Or.inr (Or.inr (Or.inr (Or.inl ⟨rfl, rfl⟩)))) rfl dX5_take_88
        · have new9 : ∀ j : Nat, j < n9 → ¬ f9 j = nI k2 := fun j hj e => absurd c9 ((c3 k2 (by omega)).mpr ⟨j, hj, e⟩)
          have room9 : n9 < 128 := by
            have := pig 128 (n9 + 1) (fun j => if j < n9 then (f9 j).toNatClampNeg else k2) (fun j hj => by
              by_cases e : j < n9
              · rw [if_pos e]; obtain ⟨x, hx, ex⟩ := c1 j e; rw [ex, nI_clamp (by omega)]; exact hx
              · rw [if_neg e]; omega) (fun i j hi hj e => by
              by_cases e1 : i < n9
              · by_cases e2 : j < n9
                · rw [if_pos e1, if_pos e2] at e; obtain ⟨x, hx, ex⟩ := c1 i e1; obtain ⟨y, hy, ey⟩ := c1 j e2; rw [ex, ey, nI_clamp (by omega), nI_clamp (by omega)] at e; exact c2 i j e1 e2 (by rw [ex, ey, e])
                · rw [if_pos e1, if_neg e2] at e; obtain ⟨x, hx, ex⟩ := c1 i e1; rw [ex, nI_clamp (by omega)] at e; exact absurd (by rw [ex, e]) (new9 i e1)
              · by_cases e2 : j < n9
                · rw [if_neg e1, if_pos e2] at e; obtain ⟨x, hx, ex⟩ := c1 j e2; rw [ex, nI_clamp (by omega)] at e; exact absurd (by rw [ex, ← e]) (new9 j e2)
                · omega)
            omega
          refine lv_aload_n (pc := 51) hx hb dX5_take_51 rfl (lv_at hl 0 rfl) ?_
          refine h_get (pc := 52) X hI.1 (hFX5 18 _ rfl) z_q1 ((congrArg TSx.1 t_q1).trans rfl) rfl dX5_take_52 (fun vhv11 hv11 hEhv11 => ?_)
          obtain rfl := FE_fun hEhv11 G2
          refine lv_iload_n (pc := 55) hx hb dX5_take_55 rfl (lv_at hl 1 rfl) ?_
          refine lv_iconst (v := 1) (pc := 56) hx hb dX5_take_56 (by decide) ?_
          refine h_stK (pc := 57) (kd := 3) (n := 128) (a := vi 0 1) (k := k2) (x := 1) X hI z_mq (Or.inr ⟨rfl, rfl, by decide, by decide⟩) ((congrArg TSx.1 t_mq).trans rfl) A46 (bndK (Or.inr (Or.inr rfl)) hI.1 t_mq (by decide) rfl A46) (by omega) (by decide) (avi_nI (lo := 0) (hi := 1) (k := 1) (by decide) (by decide) (by decide)) (by rw [t_mq]; decide) (fun _ _ _ _ => INVx) dX5_take_57 (fun H locs hI A46 _ hUn => ?_)
          rw [t_mq] at hUn
          have G0 := hUn.fld t_q1 (by decide) rfl (by decide) G0
          have G2 := hUn.fld t_q1 (by decide) rfl (by decide) G2
          have G3 := hUn.fld t_q1 (by decide) rfl (by decide) G3
          have A44 := A44.kept (hUn.arr t_sq (by decide) rfl (by decide))
          refine lv_aload_n (pc := 58) hx hb dX5_take_58 rfl (lv_at hl 0 rfl) ?_
          refine h_get (pc := 59) X hI.1 (hFX5 11 _ rfl) z_q1 ((congrArg TSx.1 t_q1).trans rfl) rfl dX5_take_59 (fun vhv12 hv12 hEhv12 => ?_)
          obtain rfl := FE_fun hEhv12 G0
          refine lv_aload_n (pc := 62) hx hb dX5_take_62 rfl (lv_at hl 0 rfl) ?_
          refine h_get (pc := 63) X hI.1 (hFX5 25 _ rfl) z_q1 ((congrArg TSx.1 t_q1).trans rfl) rfl dX5_take_63 (fun vhv13 hv13 hEhv13 => ?_)
          obtain rfl := FE_fun hEhv13 G3
          refine lv_iload_n (pc := 66) hx hb dX5_take_66 rfl (lv_at hl 1 rfl) ?_
          refine h_stK (pc := 67) (kd := 1) (n := 128) (a := vi 0 127) (k := n9) (x := nI k2) X hI z_sq (Or.inl ⟨rfl, rfl⟩) ((congrArg TSx.1 t_sq).trans rfl) A44 (bndK (Or.inr (Or.inl rfl)) hI.1 t_sq (by decide) rfl A44) (by omega) (by decide) (avi_nI (lo := 0) (hi := 127) (k := k2) (by omega) (by omega) (by decide)) (by rw [t_sq]; decide) (fun _ _ _ _ => INVx) dX5_take_67 (fun H locs hI A44 _ hUn => ?_)
          rw [t_sq] at hUn
          have G0 := hUn.fld t_q1 (by decide) rfl (by decide) G0
          have G2 := hUn.fld t_q1 (by decide) rfl (by decide) G2
          have G3 := hUn.fld t_q1 (by decide) rfl (by decide) G3
          have A46 := A46.kept (hUn.arr t_mq (by decide) rfl (by decide))
          refine lv_aload_n (pc := 68) hx hb dX5_take_68 rfl (lv_at hl 0 rfl) ?_
          refine h_get (pc := 69) X hI.1 (hFX5 15 _ rfl) z_q1 ((congrArg TSx.1 t_q1).trans rfl) rfl dX5_take_69 (fun vhv14 hv14 hEhv14 => ?_)
          obtain ⟨q15, rfl, t_q15, z_q15⟩ := avi_ref rfl hv14
          have t_q15 : Γ q15 = 45 := t_q15
          refine lv_aload_n (pc := 72) hx hb dX5_take_72 rfl (lv_at hl 0 rfl) ?_
          refine h_get (pc := 73) X hI.1 (hFX5 25 _ rfl) z_q1 ((congrArg TSx.1 t_q1).trans rfl) rfl dX5_take_73 (fun vhv16 hv16 hEhv16 => ?_)
          obtain rfl := FE_fun hEhv16 G3
          refine lv_iload_n (pc := 76) hx hb dX5_take_76 rfl (lv_at hl 3 rfl) ?_
          refine h_sto (pc := 77) (b := itop) X hI z_q15 (Or.inl ⟨rfl, rfl⟩) ((congrArg TSx.1 t_q15).trans rfl) (avi_nI (lo := 0) (hi := 127) (k := n9) (Nat.zero_le _) (by omega) (by decide)) (by decide) (by decide) (avi_top _) (by decide) (by rw [t_q15]; decide) dX5_take_77 (fun H locs hI hUn => ?_)
          rw [t_q15] at hUn
          have G0 := hUn.fld t_q1 (by decide) rfl (by decide) G0
          have G2 := hUn.fld t_q1 (by decide) rfl (by decide) G2
          have G3 := hUn.fld t_q1 (by decide) rfl (by decide) G3
          have A46 := A46.kept (hUn.arr t_mq (by decide) rfl (by decide))
          have A44 := A44.kept (hUn.arr t_sq (by decide) rfl (by decide))
          refine lv_aload_n (pc := 78) hx hb dX5_take_78 rfl (lv_at hl 0 rfl) ?_
          refine lv_dup (pc := 79) hx hb dX5_take_79 rfl ?_
          refine h_get (pc := 80) X hI.1 (hFX5 25 _ rfl) z_q1 ((congrArg TSx.1 t_q1).trans rfl) rfl dX5_take_80 (fun vhv17 hv17 hEhv17 => ?_)
          obtain rfl := FE_fun hEhv17 G3
          refine lv_iconst (v := 1) (pc := 83) hx hb dX5_take_83 (by decide) ?_
          refine lv_iadd (pc := 84) hx hb dX5_take_84 ?_
          refine lv_topi (fun v18 ev18 => ?_)
          obtain rfl : v18 = nI (n9 + 1) := ev18.trans (nI_1 _)
          refine h_putG (pc := 85) (b := vi 0 128) X hI (hFX5 25 _ rfl) z_q1 ((congrArg TSx.1 t_q1).trans rfl) rfl rfl (avi_nI (lo := 0) (hi := 128) (k := n9 + 1) (by omega) (by omega) (by decide)) (by decide) (by decide) (by rw [t_q1]; decide) (fun _ _ _ => INVx) dX5_take_85 (fun H locs hI hUn G3 => ?_)
          rw [t_q1] at hUn
          have G0 := hUn.fld t_q1 (by decide) rfl (by decide) G0
          have G2 := hUn.fld t_q1 (by decide) rfl (by decide) G2
          have A46 := A46.kept (hUn.arr t_mq (by decide) rfl (by decide))
          have A44 := A44.kept (hUn.arr t_sq (by decide) rfl (by decide))
          have hu0 := Un_0 hI.2.2.2.2
          obtain ⟨U1, U2, -⟩ := hT0.2.1 rfl
          have hI := HI_0 hI (INV0 (U1.keep hu0 (by decide)) (INV2_keep U2 hu0 (by decide)) (fun q9 hq9 => by
            obtain rfl := hU q9 q1 (hq9.trans t_q1.symm) (by rw [hq9]; decide)
            rw [esq, emq]
            refine ⟨t_sq, t_mq, G0, G2, n9 + 1, _, _, G3, by omega, A44, A46, fun j hj => ?_, fun i j hi hj e => ?_, fun x hx => ?_⟩
            · by_cases e : j = n9
              · subst e; exact ⟨k2, by omega, by simp only [upd, if_true]⟩
              · obtain ⟨x, hx, ex⟩ := c1 j (by omega)
                exact ⟨x, hx, by simp only [upd, e, if_false]; exact ex⟩
            · by_cases e1 : i = n9
              · by_cases e2 : j = n9
                · omega
                · subst e1; simp only [upd, if_true, e2, if_false] at e; exact absurd e.symm (new9 j (by omega))
              · by_cases e2 : j = n9
                · subst e2; simp only [upd, if_true, e1, if_false] at e; exact absurd e (new9 i (by omega))
                · simp only [upd, e1, e2, if_false] at e; exact c2 i j (by omega) (by omega) e
            · by_cases e : x = k2
              · subst e
                simp only [upd, if_true]
                exact ⟨fun _ => ⟨n9, by omega, by simp only [if_true]⟩, fun _ => by decide⟩
              · simp only [upd, e, if_false]
                refine (c3 x hx).trans ⟨fun ⟨j, j1, j2⟩ => ⟨j, by omega, ?_⟩, fun ⟨j, j1, j2⟩ => ?_⟩
                · rw [if_neg (by omega)]; exact j2
                · by_cases ej : j = n9
                  · rw [if_pos ej] at j2; exact absurd ((nI_eq (by omega) (by omega)).mp j2).symm e
                  · rw [if_neg ej] at j2; exact ⟨j, by omega, j2⟩))
          exact h_vret (pc := 88) X hI hQ hr (Or.inr (Or.inr (Or.inr (Or.inl ⟨rfl, rfl⟩)))) rfl dX5_take_88
      · have i9 : i < k8 := (nI_ltI (by omega) (by omega)).mp (Int32.not_le.mp c9)
        refine lv_iload_n (pc := 12) hx hb dX5_take_12 rfl (lv_at hl 2 rfl) ?_
        refine lv_iload (pc := 13) hx hb dX5_take_13 (lv_at hl 4 rfl) ?_
        refine h_call (pc := 15) (dd := 2) (avs := [.int (nI k4), .int (nI i)]) (rs := []) X hI (COSN (ci := 0) (SX11_has_0 l g) (by decide) vX5_36) ⟨Nat.le_refl _, Nat.le_refl _, Nat.le_refl _, Nat.le_refl _⟩ (by decide) hl.1 rfl rfl hU no_pf ⟨avi_top _, avi_top _, trivial⟩ (fun h => by cases h) (md_sub (by decide)) (Nat.le_of_ble_eq_true rfl) dX5_take_15 (fun vr H locs hro hI hUn => ?_)
        obtain ⟨vhv19, rfl, hv19, imhv19⟩ := RO_some rfl hro
        obtain ⟨x21, rfl, -⟩ := avi_int rfl hv19
        obtain ⟨k20, rfl, lo_k20, hi_k20⟩ := avi_nn (lo := 0) (hi := 1) hv19
        refine lv_if_eq (tgt := 36) (pc := 18) hx hb dX5_take_18 rfl (fun c22 => ?_) (fun c22 => ?_)
        · refine lv_iinc (v := nI (i + 1)) (lv' := [(4, .int (nI (i + 1))), (0, .ref q1), (1, .int (nI k2)), (2, .int (nI k4)), (3, .int x6)]) (pc := 36) hx hb dX5_take_36 hl (k := 4) rfl ((nI_succ i).symm) (by decide) rfl (fun ls hl => ?_)
          refine lv_goto (tgt := 3) (pc := 39) hx hb dX5_take_39 rfl ?_
          exact ihA (i + 1) (by omega) (by omega) _ _ _ hI  (lv_sub hl [1, 2, 3, 4, 0] rfl)
        · refine lv_aload_n (pc := 21) hx hb dX5_take_21 rfl (lv_at hl 0 rfl) ?_
          refine h_get (pc := 22) X hI.1 (hFX5 22 _ rfl) z_q1 ((congrArg TS0.1 t_q1).trans rfl) rfl dX5_take_22 (fun vhv23 hv23 hEhv23 => ?_)
          obtain ⟨q24, rfl, t_q24, z_q24⟩ := avi_ref rfl hv23
          have t_q24 : Γ q24 = 47 := t_q24
          refine lv_iload (pc := 25) hx hb dX5_take_25 (lv_at hl 4 rfl) ?_
          refine h_iald (pc := 27) X hI.1 z_q24 ((congrArg TS0.1 t_q24).trans rfl) (avi_nI (lo := 0) (hi := 6) (k := i) (Nat.zero_le _) (by omega) (by decide)) (by decide) (by decide) dX5_take_27 (fun vhv25 hv25 hEhv25 => ?_)
          obtain ⟨x27, rfl, -⟩ := avi_int rfl hv25
          obtain ⟨k26, rfl, lo_k26, hi_k26⟩ := avi_nn (lo := 0) (hi := 127) hv25
          refine lv_iload_n (pc := 28) hx hb dX5_take_28 rfl (lv_at hl 1 rfl) ?_
          refine lv_iconst (v := (-1)) (pc := 29) hx hb dX5_take_29 (by decide) ?_
          refine lv_ixor (pc := 30) hx hb dX5_take_30 ?_
          refine lv_iand (pc := 31) hx hb dX5_take_31 ?_
          refine lv_if_eq (tgt := 36) (pc := 32) hx hb dX5_take_32 rfl (fun c28 => ?_) (fun c28 => ?_)
          · refine lv_iinc (v := nI (i + 1)) (lv' := [(4, .int (nI (i + 1))), (0, .ref q1), (1, .int (nI k2)), (2, .int (nI k4)), (3, .int x6)]) (pc := 36) hx hb dX5_take_36 hl (k := 4) rfl ((nI_succ i).symm) (by decide) rfl (fun ls hl => ?_)
            refine lv_goto (tgt := 3) (pc := 39) hx hb dX5_take_39 rfl ?_
            exact ihA (i + 1) (by omega) (by omega) _ _ _ hI  (lv_sub hl [1, 2, 3, 4, 0] rfl)
          · exact h_vret (pc := 35) X hI hQ hr (Or.inr (Or.inr (Or.inr (Or.inl ⟨rfl, rfl⟩)))) rfl dX5_take_35
  exact loopA 8 0 (by decide) (by decide) _ _ _ hI  (lv_sub hl [1, 2, 3, 4, 0] rfl)
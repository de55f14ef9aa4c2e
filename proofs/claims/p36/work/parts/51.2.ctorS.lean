theorem st_in : ∀ k, k < 128 → ∀ o, o < 128 → 0 ≤ (nI k ||| (nI o <<< (7 &&& 31))).toInt ∧ (nI k ||| (nI o <<< (7 &&& 31))).toInt ≤ 16383 := by decide +kernel
theorem and_half {k o : Nat} (h : k &&& o = 0) : ¬ (k % 2 = 1 ∧ o % 2 = 1) ∧ k / 2 &&& o / 2 = 0 := by
  constructor
  · rintro ⟨a, b⟩
    have e := congrArg (fun x => Nat.testBit x 0) h
    simp [Nat.testBit_and, Nat.testBit_zero, a, b] at e
  · apply Nat.eq_of_testBit_eq
    intro i
    rw [Nat.testBit_and, ← Nat.testBit_add_one, ← Nat.testBit_add_one, ← Nat.testBit_and, h, Nat.zero_testBit, Nat.zero_testBit]
theorem dg3 {a b a2 b2 A B A2 B2 : Nat} (ha : a < 2) (hb : b < 2) (h1 : ¬ (a = 1 ∧ b = 1)) (ha2 : a2 < 2) (hb2 : b2 < 2) (h2 : ¬ (a2 = 1 ∧ b2 = 1)) (q : 2 * (a + 3 * A) + (b + 3 * B) = 2 * (a2 + 3 * A2) + (b2 + 3 * B2)) : a = a2 ∧ b = b2 ∧ 2 * A + B = 2 * A2 + B2 := by
  have e1 : a = 0 ∨ a = 1 := by omega
  have e2 : b = 0 ∨ b = 1 := by omega
  have e3 : a2 = 0 ∨ a2 = 1 := by omega
  have e4 : b2 = 0 ∨ b2 = 1 := by omega
  rcases e1 with rfl | rfl <;> rcases e2 with rfl | rfl <;> rcases e3 with rfl | rfl <;> rcases e4 with rfl | rfl <;> omega
theorem pw3_inj : ∀ (m k o k2 o2 : Nat), k < 2 ^ m → o < 2 ^ m → k2 < 2 ^ m → o2 < 2 ^ m → k &&& o = 0 → k2 &&& o2 = 0 → 2 * pw3 m k + pw3 m o = 2 * pw3 m k2 + pw3 m o2 → k = k2 ∧ o = o2
  | 0, k, o, k2, o2, h1, h2, h3, h4, _, _, _ => by
    have e : 2 ^ 0 = 1 := rfl
    rw [e] at h1 h2 h3 h4
    omega
  | m + 1, k, o, k2, o2, h1, h2, h3, h4, h5, h6, h7 => by
    obtain ⟨a1, a2⟩ := and_half h5
    obtain ⟨b1, b2⟩ := and_half h6
    have e : 2 ^ (m + 1) = 2 * 2 ^ m := by rw [Nat.pow_succ, Nat.mul_comm]
    rw [e] at h1 h2 h3 h4
    have q : 2 * (k % 2 + 3 * pw3 m (k / 2)) + (o % 2 + 3 * pw3 m (o / 2)) = 2 * (k2 % 2 + 3 * pw3 m (k2 / 2)) + (o2 % 2 + 3 * pw3 m (o2 / 2)) := h7
    generalize hA : pw3 m (k / 2) = A at q
    generalize hB : pw3 m (o / 2) = B at q
    generalize hA2 : pw3 m (k2 / 2) = A2 at q
    generalize hB2 : pw3 m (o2 / 2) = B2 at q
    have q2 : k % 2 = k2 % 2 ∧ o % 2 = o2 % 2 ∧ 2 * A + B = 2 * A2 + B2 := dg3 (by omega) (by omega) a1 (by omega) (by omega) b1 q
    obtain ⟨c1, c2⟩ := pw3_inj m (k / 2) (o / 2) (k2 / 2) (o2 / 2) (by omega) (by omega) (by omega) (by omega) a2 b2 (by rw [hA, hB, hA2, hB2]; exact q2.2.2)
    have q3 := q2.1
    have q4 := q2.2.1
    clear q h7 q2 hA hB hA2 hB2
    omega
def b14a_ (f : Nat → Int32) : Prop := ∀ j : Nat, j < 2187 → 0 ≤ (f j).toInt ∧ (f j).toInt ≤ 16383
def b14k_ (k o : Nat) (f : Nat → Int32) : Prop := b14a_ f ∧ ∀ x y : Nat, x < 128 → y < 128 → x &&& y = 0 → (x < k ∨ (x = k ∧ y < o)) → f (2 * pw3 7 x + pw3 7 y) = nI x ||| (nI y <<< ((7 : Int32) &&& 31))
def b14_ (f : Nat → Int32) : Prop := b14k_ 128 0 f
theorem b14_up {k o : Nat} {f : Nat → Int32} (h : b14k_ k o f) (ho : 128 ≤ o) : b14k_ (k + 1) 0 f := ⟨h.1, fun x y a b c d => h.2 x y a b c (by omega)⟩
theorem b14_end {k : Nat} {f : Nat → Int32} (h : b14k_ k 0 f) (hk : 128 ≤ k) : b14_ f := ⟨h.1, fun x y a b c d => h.2 x y a b c (by omega)⟩
theorem b14_skip {k o : Nat} {f : Nat → Int32} (h : b14k_ k o f) (hn : ¬ k &&& o = 0) : b14k_ k (o + 1) f := ⟨h.1, fun x y a b c d => h.2 x y a b c (by
  rcases d with d | ⟨d1, d2⟩
  · exact Or.inl d
  · refine Or.inr ⟨d1, ?_⟩
    by_cases e : y = o
    · rw [d1, e] at c; exact absurd c hn
    · omega)⟩
theorem b14_put {k o : Nat} {f fz : Nat → Int32} (h : b14k_ k o f) (hk : k < 128) (ho : o < 128) (hz : k &&& o = 0) (e : ∀ j : Nat, fz j = if j = 2 * pw3 7 k + pw3 7 o then nI k ||| (nI o <<< ((7 : Int32) &&& 31)) else f j) : b14k_ k (o + 1) fz := by
  refine ⟨fun j hj => ?_, fun x y a b c d => ?_⟩
  · rw [e j]
    by_cases q : j = 2 * pw3 7 k + pw3 7 o
    · rw [if_pos q]; exact st_in k hk o ho
    · rw [if_neg q]; exact h.1 j hj
  · rw [e]
    by_cases q : 2 * pw3 7 x + pw3 7 y = 2 * pw3 7 k + pw3 7 o
    · obtain ⟨q1, q2⟩ := pw3_inj 7 x y k o a b hk ho c hz q
      rw [if_pos q, q1, q2]
    · rw [if_neg q]
      refine h.2 x y a b c ?_
      rcases d with d | ⟨d1, d2⟩
      · exact Or.inl d
      · refine Or.inr ⟨d1, ?_⟩
        have : ¬ y = o := fun z => q (by rw [d1, z])
        omega

set_option maxHeartbeats 4000000 in
set_option maxRecDepth 100000 in
theorem C_X7_stateF (l : Launch) (g : GG) (a b : Int32) : MetI l g yX7_state cX7_state 2 (some .int) 0 0 0 [.int a, .int b] [] (fun r u => r = a ||| (b <<< (7 &&& 31)) ∧ u = []) := by
  refine MetI.of (own := RX7) rfl (by decide) (Nat.le_of_ble_eq_true rfl) ?_
  intro p e s m below meth c A ls args Q hQ X hr hin hW hl
  have hx := X.1
  have hb := X.2.1
  have hl : lv_has ls 2 [(0, .int a), (1, .int b)] := hl
  refine lv_iload_n (pc := 0) hx hb dX7_state_0 rfl (lv_at hl 0 rfl) ?_
  refine lv_iload_n (pc := 1) hx hb dX7_state_1 rfl (lv_at hl 1 rfl) ?_
  refine lv_bipush (v := 7) (pc := 2) hx hb dX7_state_2 (by decide) ?_
  refine lv_ishl (pc := 4) hx hb dX7_state_4 ?_
  refine lv_ior (pc := 5) hx hb dX7_state_5 ?_
  exact e_i X hQ hr hW (u := []) [] rfl rfl (⟨rfl, rfl⟩) ⟨Nat.le_of_ble_eq_true rfl, Nat.le_of_ble_eq_true rfl⟩ dX7_state_6

set_option maxHeartbeats 4000000 in
set_option maxRecDepth 100000 in
theorem C_X7_initF (l : Launch) (g : GG) (h0 : Nat) : MetV l g yX7_init cX7_init 3 none 2 12 11635 [.ref h0] [(h0, .inr (7, [.null, .int 0, .int 0, .int 0, .int 0, .null, .null, .null, .null, .null, .null, .null, .int 0, .int 0, .int 0, .int 0, .int 0]))] (fun u => ∃ (q : Nat → Nat) (f : Nat → Int32) (sf : Nat → Int32), (∀ j, j < 128 → f j = nI (pw3 7 j)) ∧ (b14_ sf) ∧ u = [(h0, .inr (7, [.ref (q 0), .int 0, .int 0, .int 0, .int 0, .ref (q 1), .ref (q 2), .ref (q 3), .ref (q 4), .ref (q 5), .ref (q 6), .ref (q 7), .int 0, .int 0, .int 0, .int 0, .int 0])), ((q 0), .inr (5, [.ref ((q 0) + 1), .ref ((q 0) + 2), .ref ((q 0) + 3), .int 0, .ref ((q 0) + 4), .int 0])), (((q 0) + 1), .inl (g.2.1 1, 128, .inl (fun _ => 0))), (((q 0) + 2), .inl (g.2.1 1, 128, .inl (fun _ => 0))), (((q 0) + 3), .inl (g.2.1 3, 128, .inl (fun _ => 0))), (((q 0) + 4), .inl (g.2.1 1, 7, .inl (fun _ => 0))), ((q 1), .inl (g.2.1 1, 175, .inl (fun _ => 0))), ((q 2), .inl (g.2.1 1, 128, .inl f)), ((q 3), .inl (g.2.1 1, 2187, .inl sf)), ((q 4), .inl (g.2.1 1, 2187, .inl (fun _ => 0))), ((q 5), .inl (g.2.1 1, 2187, .inl (fun _ => 0))), ((q 6), .inl (g.2.1 1, 2187, .inl (fun _ => 0))), ((q 7), .inl (g.2.1 1, 2187, .inl (fun _ => 0)))]) := by
  refine MetV.of (own := RX7) rfl (by decide) (Nat.le_of_ble_eq_true rfl) ?_
  intro p e s m below meth c A ls args Q hQ X hr hin hW hl
  have hx := X.1
  have hb := X.2.1
  have hl : lv_has ls 3 [(0, .ref h0)] := hl
  refine lv_aload_n (pc := 0) hx hb dX7_init_0 rfl (lv_at hl 0 rfl) ?_
  refine W.objInit hx hb X.2.2.2.1 (X.2.2.2.2.1 _ m_80) (X.2.2.2.2.1 _ m_28) (X.2.2.2.2.1 _ m_29) rfl (by rw [X.2.2.1]; exact hl.1) rfl dX7_init_1 (Nat.le_of_ble_eq_true rfl) (Nat.le_of_ble_eq_true rfl) ?_
  refine W.eq (g2 := F0 m 4 ls []) rfl ?_
  refine lv_aload_n (pc := 4) hx hb dX7_init_4 rfl (lv_at hl 0 rfl) ?_
  obtain ⟨q1, hz⟩ : ∃ q : Nat, s.heap.size = q := ⟨_, rfl⟩
  refine r_newE (z := q1) (fs := [.null, .null, .null, .int 0, .null, .int 0]) X hW hz ciX5 m_81 m_82 m_5 (by decide +kernel) ⟨Nat.le_of_ble_eq_true rfl, Nat.le_of_ble_eq_true rfl⟩ dX7_init_5 (fun H hz _ hW => ?_)
  have hW : WD g A s _ _ [(h0, .inr (7, [.null, .int 0, .int 0, .int 0, .int 0, .null, .null, .null, .null, .null, .null, .null, .int 0, .int 0, .int 0, .int 0, .int 0])), (q1, .inr (5, [.null, .null, .null, .int 0, .null, .int 0]))] := hW
  refine lv_dup (pc := 8) hx hb dX7_init_8 rfl ?_
  refine c_INvz (pc := 9) (As := []) (rest := [.ref q1, .ref h0]) (wr := [(h0, .inr (7, [.null, .int 0, .int 0, .int 0, .int 0, .null, .null, .null, .null, .null, .null, .null, .int 0, .int 0, .int 0, .int 0, .int 0]))]) X hW hz (C_X5_initE l g q1) vX7_11 [1] [0] rfl rfl rfl rfl rfl rfl hl.1 rfl (Nat.le_of_ble_eq_true rfl) ⟨Nat.le_of_ble_eq_true rfl, Nat.le_of_ble_eq_true rfl⟩ ⟨Nat.le_of_ble_eq_true rfl, Nat.le_of_ble_eq_true rfl⟩ dX7_init_9 (fun u9 H locs hq _ hW => ?_)
  obtain rfl := hq
  have hW : WD g A s _ _ [(h0, .inr (7, [.null, .int 0, .int 0, .int 0, .int 0, .null, .null, .null, .null, .null, .null, .null, .int 0, .int 0, .int 0, .int 0, .int 0])), (q1, .inr (5, [.ref (q1 + 1), .ref (q1 + 2), .ref (q1 + 3), .int 0, .ref (q1 + 4), .int 0])), ((q1 + 1), .inl (g.2.1 1, 128, .inl (fun _ => 0))), ((q1 + 2), .inl (g.2.1 1, 128, .inl (fun _ => 0))), ((q1 + 3), .inl (g.2.1 3, 128, .inl (fun _ => 0))), ((q1 + 4), .inl (g.2.1 1, 7, .inl (fun _ => 0)))] := hW
  refine r_putF (ws' := [(h0, .inr (7, [.ref q1, .int 0, .int 0, .int 0, .int 0, .null, .null, .null, .null, .null, .null, .null, .int 0, .int 0, .int 0, .int 0, .int 0])), (q1, .inr (5, [.ref (q1 + 1), .ref (q1 + 2), .ref (q1 + 3), .int 0, .ref (q1 + 4), .int 0])), ((q1 + 1), .inl (g.2.1 1, 128, .inl (fun _ => 0))), ((q1 + 2), .inl (g.2.1 1, 128, .inl (fun _ => 0))), ((q1 + 3), .inl (g.2.1 3, 128, .inl (fun _ => 0))), ((q1 + 4), .inl (g.2.1 1, 7, .inl (fun _ => 0)))]) X hin hW 0 ciX7 0 rfl (by decide) m_113 rfl rfl rfl rfl rfl (Nat.le_of_ble_eq_true rfl) rfl dX7_init_12 (fun H locs hW => ?_)
  refine lv_aload_n (pc := 15) hx hb dX7_init_15 rfl (lv_at hl 0 rfl) ?_
  refine lv_sipush (v := 175) (pc := 16) hx hb dX7_init_16 (by decide) ?_
  refine r_newa (a0 := (175, .inl (fun _ => 0))) X hW .int rfl m_47 1 rfl (by intro C h; cases h) (fun _ => rfl) (by decide) (by decide) (Nat.le_of_ble_eq_true rfl) ⟨Nat.le_of_ble_eq_true rfl, Nat.le_of_ble_eq_true rfl⟩ dX7_init_19 (fun q2 H hW => ?_)
  have hW : WD g A s _ _ [(h0, .inr (7, [.ref q1, .int 0, .int 0, .int 0, .int 0, .null, .null, .null, .null, .null, .null, .null, .int 0, .int 0, .int 0, .int 0, .int 0])), (q1, .inr (5, [.ref (q1 + 1), .ref (q1 + 2), .ref (q1 + 3), .int 0, .ref (q1 + 4), .int 0])), ((q1 + 1), .inl (g.2.1 1, 128, .inl (fun _ => 0))), ((q1 + 2), .inl (g.2.1 1, 128, .inl (fun _ => 0))), ((q1 + 3), .inl (g.2.1 3, 128, .inl (fun _ => 0))), ((q1 + 4), .inl (g.2.1 1, 7, .inl (fun _ => 0))), (q2, .inl (g.2.1 1, 175, .inl (fun _ => 0)))] := hW
  refine r_putF (ws' := [(h0, .inr (7, [.ref q1, .int 0, .int 0, .int 0, .int 0, .ref q2, .null, .null, .null, .null, .null, .null, .int 0, .int 0, .int 0, .int 0, .int 0])), (q1, .inr (5, [.ref (q1 + 1), .ref (q1 + 2), .ref (q1 + 3), .int 0, .ref (q1 + 4), .int 0])), ((q1 + 1), .inl (g.2.1 1, 128, .inl (fun _ => 0))), ((q1 + 2), .inl (g.2.1 1, 128, .inl (fun _ => 0))), ((q1 + 3), .inl (g.2.1 3, 128, .inl (fun _ => 0))), ((q1 + 4), .inl (g.2.1 1, 7, .inl (fun _ => 0))), (q2, .inl (g.2.1 1, 175, .inl (fun _ => 0)))]) X hin hW 0 ciX7 5 rfl (by decide) m_118 rfl rfl rfl rfl rfl (Nat.le_of_ble_eq_true rfl) rfl dX7_init_21 (fun H locs hW => ?_)
  refine lv_aload_n (pc := 24) hx hb dX7_init_24 rfl (lv_at hl 0 rfl) ?_
  refine lv_sipush (v := 128) (pc := 25) hx hb dX7_init_25 (by decide) ?_
  refine r_newa (a0 := (128, .inl (fun _ => 0))) X hW .int rfl m_47 1 rfl (by intro C h; cases h) (fun _ => rfl) (by decide) (by decide) (Nat.le_of_ble_eq_true rfl) ⟨Nat.le_of_ble_eq_true rfl, Nat.le_of_ble_eq_true rfl⟩ dX7_init_28 (fun q3 H hW => ?_)
  have hW : WD g A s _ _ [(h0, .inr (7, [.ref q1, .int 0, .int 0, .int 0, .int 0, .ref q2, .null, .null, .null, .null, .null, .null, .int 0, .int 0, .int 0, .int 0, .int 0])), (q1, .inr (5, [.ref (q1 + 1), .ref (q1 + 2), .ref (q1 + 3), .int 0, .ref (q1 + 4), .int 0])), ((q1 + 1), .inl (g.2.1 1, 128, .inl (fun _ => 0))), ((q1 + 2), .inl (g.2.1 1, 128, .inl (fun _ => 0))), ((q1 + 3), .inl (g.2.1 3, 128, .inl (fun _ => 0))), ((q1 + 4), .inl (g.2.1 1, 7, .inl (fun _ => 0))), (q2, .inl (g.2.1 1, 175, .inl (fun _ => 0))), (q3, .inl (g.2.1 1, 128, .inl (fun _ => 0)))] := hW
  refine r_putF (ws' := [(h0, .inr (7, [.ref q1, .int 0, .int 0, .int 0, .int 0, .ref q2, .ref q3, .null, .null, .null, .null, .null, .int 0, .int 0, .int 0, .int 0, .int 0])), (q1, .inr (5, [.ref (q1 + 1), .ref (q1 + 2), .ref (q1 + 3), .int 0, .ref (q1 + 4), .int 0])), ((q1 + 1), .inl (g.2.1 1, 128, .inl (fun _ => 0))), ((q1 + 2), .inl (g.2.1 1, 128, .inl (fun _ => 0))), ((q1 + 3), .inl (g.2.1 3, 128, .inl (fun _ => 0))), ((q1 + 4), .inl (g.2.1 1, 7, .inl (fun _ => 0))), (q2, .inl (g.2.1 1, 175, .inl (fun _ => 0))), (q3, .inl (g.2.1 1, 128, .inl (fun _ => 0)))]) X hin hW 0 ciX7 6 rfl (by decide) m_119 rfl rfl rfl rfl rfl (Nat.le_of_ble_eq_true rfl) rfl dX7_init_30 (fun H locs hW => ?_)
  refine lv_aload_n (pc := 33) hx hb dX7_init_33 rfl (lv_at hl 0 rfl) ?_
  refine lv_sipush (v := 2187) (pc := 34) hx hb dX7_init_34 (by decide) ?_
  refine r_newa (a0 := (2187, .inl (fun _ => 0))) X hW .int rfl m_47 1 rfl (by intro C h; cases h) (fun _ => rfl) (by decide) (by decide) (Nat.le_of_ble_eq_true rfl) ⟨Nat.le_of_ble_eq_true rfl, Nat.le_of_ble_eq_true rfl⟩ dX7_init_37 (fun q4 H hW => ?_)
  have hW : WD g A s _ _ [(h0, .inr (7, [.ref q1, .int 0, .int 0, .int 0, .int 0, .ref q2, .ref q3, .null, .null, .null, .null, .null, .int 0, .int 0, .int 0, .int 0, .int 0])), (q1, .inr (5, [.ref (q1 + 1), .ref (q1 + 2), .ref (q1 + 3), .int 0, .ref (q1 + 4), .int 0])), ((q1 + 1), .inl (g.2.1 1, 128, .inl (fun _ => 0))), ((q1 + 2), .inl (g.2.1 1, 128, .inl (fun _ => 0))), ((q1 + 3), .inl (g.2.1 3, 128, .inl (fun _ => 0))), ((q1 + 4), .inl (g.2.1 1, 7, .inl (fun _ => 0))), (q2, .inl (g.2.1 1, 175, .inl (fun _ => 0))), (q3, .inl (g.2.1 1, 128, .inl (fun _ => 0))), (q4, .inl (g.2.1 1, 2187, .inl (fun _ => 0)))] := hW
  refine r_putF (ws' := [(h0, .inr (7, [.ref q1, .int 0, .int 0, .int 0, .int 0, .ref q2, .ref q3, .ref q4, .null, .null, .null, .null, .int 0, .int 0, .int 0, .int 0, .int 0])), (q1, .inr (5, [.ref (q1 + 1), .ref (q1 + 2), .ref (q1 + 3), .int 0, .ref (q1 + 4), .int 0])), ((q1 + 1), .inl (g.2.1 1, 128, .inl (fun _ => 0))), ((q1 + 2), .inl (g.2.1 1, 128, .inl (fun _ => 0))), ((q1 + 3), .inl (g.2.1 3, 128, .inl (fun _ => 0))), ((q1 + 4), .inl (g.2.1 1, 7, .inl (fun _ => 0))), (q2, .inl (g.2.1 1, 175, .inl (fun _ => 0))), (q3, .inl (g.2.1 1, 128, .inl (fun _ => 0))), (q4, .inl (g.2.1 1, 2187, .inl (fun _ => 0)))]) X hin hW 0 ciX7 7 rfl (by decide) m_120 rfl rfl rfl rfl rfl (Nat.le_of_ble_eq_true rfl) rfl dX7_init_39 (fun H locs hW => ?_)
  refine lv_aload_n (pc := 42) hx hb dX7_init_42 rfl (lv_at hl 0 rfl) ?_
  refine lv_sipush (v := 2187) (pc := 43) hx hb dX7_init_43 (by decide) ?_
  refine r_newa (a0 := (2187, .inl (fun _ => 0))) X hW .int rfl m_47 1 rfl (by intro C h; cases h) (fun _ => rfl) (by decide) (by decide) (Nat.le_of_ble_eq_true rfl) ⟨Nat.le_of_ble_eq_true rfl, Nat.le_of_ble_eq_true rfl⟩ dX7_init_46 (fun q5 H hW => ?_)
  have hW : WD g A s _ _ [(h0, .inr (7, [.ref q1, .int 0, .int 0, .int 0, .int 0, .ref q2, .ref q3, .ref q4, .null, .null, .null, .null, .int 0, .int 0, .int 0, .int 0, .int 0])), (q1, .inr (5, [.ref (q1 + 1), .ref (q1 + 2), .ref (q1 + 3), .int 0, .ref (q1 + 4), .int 0])), ((q1 + 1), .inl (g.2.1 1, 128, .inl (fun _ => 0))), ((q1 + 2), .inl (g.2.1 1, 128, .inl (fun _ => 0))), ((q1 + 3), .inl (g.2.1 3, 128, .inl (fun _ => 0))), ((q1 + 4), .inl (g.2.1 1, 7, .inl (fun _ => 0))), (q2, .inl (g.2.1 1, 175, .inl (fun _ => 0))), (q3, .inl (g.2.1 1, 128, .inl (fun _ => 0))), (q4, .inl (g.2.1 1, 2187, .inl (fun _ => 0))), (q5, .inl (g.2.1 1, 2187, .inl (fun _ => 0)))] := hW
  refine r_putF (ws' := [(h0, .inr (7, [.ref q1, .int 0, .int 0, .int 0, .int 0, .ref q2, .ref q3, .ref q4, .ref q5, .null, .null, .null, .int 0, .int 0, .int 0, .int 0, .int 0])), (q1, .inr (5, [.ref (q1 + 1), .ref (q1 + 2), .ref (q1 + 3), .int 0, .ref (q1 + 4), .int 0])), ((q1 + 1), .inl (g.2.1 1, 128, .inl (fun _ => 0))), ((q1 + 2), .inl (g.2.1 1, 128, .inl (fun _ => 0))), ((q1 + 3), .inl (g.2.1 3, 128, .inl (fun _ => 0))), ((q1 + 4), .inl (g.2.1 1, 7, .inl (fun _ => 0))), (q2, .inl (g.2.1 1, 175, .inl (fun _ => 0))), (q3, .inl (g.2.1 1, 128, .inl (fun _ => 0))), (q4, .inl (g.2.1 1, 2187, .inl (fun _ => 0))), (q5, .inl (g.2.1 1, 2187, .inl (fun _ => 0)))]) X hin hW 0 ciX7 8 rfl (by decide) m_121 rfl rfl rfl rfl rfl (Nat.le_of_ble_eq_true rfl) rfl dX7_init_48 (fun H locs hW => ?_)
  refine lv_aload_n (pc := 51) hx hb dX7_init_51 rfl (lv_at hl 0 rfl) ?_
  refine lv_sipush (v := 2187) (pc := 52) hx hb dX7_init_52 (by decide) ?_
  refine r_newa (a0 := (2187, .inl (fun _ => 0))) X hW .int rfl m_47 1 rfl (by intro C h; cases h) (fun _ => rfl) (by decide) (by decide) (Nat.le_of_ble_eq_true rfl) ⟨Nat.le_of_ble_eq_true rfl, Nat.le_of_ble_eq_true rfl⟩ dX7_init_55 (fun q6 H hW => ?_)
  have hW : WD g A s _ _ [(h0, .inr (7, [.ref q1, .int 0, .int 0, .int 0, .int 0, .ref q2, .ref q3, .ref q4, .ref q5, .null, .null, .null, .int 0, .int 0, .int 0, .int 0, .int 0])), (q1, .inr (5, [.ref (q1 + 1), .ref (q1 + 2), .ref (q1 + 3), .int 0, .ref (q1 + 4), .int 0])), ((q1 + 1), .inl (g.2.1 1, 128, .inl (fun _ => 0))), ((q1 + 2), .inl (g.2.1 1, 128, .inl (fun _ => 0))), ((q1 + 3), .inl (g.2.1 3, 128, .inl (fun _ => 0))), ((q1 + 4), .inl (g.2.1 1, 7, .inl (fun _ => 0))), (q2, .inl (g.2.1 1, 175, .inl (fun _ => 0))), (q3, .inl (g.2.1 1, 128, .inl (fun _ => 0))), (q4, .inl (g.2.1 1, 2187, .inl (fun _ => 0))), (q5, .inl (g.2.1 1, 2187, .inl (fun _ => 0))), (q6, .inl (g.2.1 1, 2187, .inl (fun _ => 0)))] := hW
  refine r_putF (ws' := [(h0, .inr (7, [.ref q1, .int 0, .int 0, .int 0, .int 0, .ref q2, .ref q3, .ref q4, .ref q5, .ref q6, .null, .null, .int 0, .int 0, .int 0, .int 0, .int 0])), (q1, .inr (5, [.ref (q1 + 1), .ref (q1 + 2), .ref (q1 + 3), .int 0, .ref (q1 + 4), .int 0])), ((q1 + 1), .inl (g.2.1 1, 128, .inl (fun _ => 0))), ((q1 + 2), .inl (g.2.1 1, 128, .inl (fun _ => 0))), ((q1 + 3), .inl (g.2.1 3, 128, .inl (fun _ => 0))), ((q1 + 4), .inl (g.2.1 1, 7, .inl (fun _ => 0))), (q2, .inl (g.2.1 1, 175, .inl (fun _ => 0))), (q3, .inl (g.2.1 1, 128, .inl (fun _ => 0))), (q4, .inl (g.2.1 1, 2187, .inl (fun _ => 0))), (q5, .inl (g.2.1 1, 2187, .inl (fun _ => 0))), (q6, .inl (g.2.1 1, 2187, .inl (fun _ => 0)))]) X hin hW 0 ciX7 9 rfl (by decide) m_122 rfl rfl rfl rfl rfl (Nat.le_of_ble_eq_true rfl) rfl dX7_init_57 (fun H locs hW => ?_)
  refine lv_aload_n (pc := 60) hx hb dX7_init_60 rfl (lv_at hl 0 rfl) ?_
  refine lv_sipush (v := 2187) (pc := 61) hx hb dX7_init_61 (by decide) ?_
  refine r_newa (a0 := (2187, .inl (fun _ => 0))) X hW .int rfl m_47 1 rfl (by intro C h; cases h) (fun _ => rfl) (by decide) (by decide) (Nat.le_of_ble_eq_true rfl) ⟨Nat.le_of_ble_eq_true rfl, Nat.le_of_ble_eq_true rfl⟩ dX7_init_64 (fun q7 H hW => ?_)
  have hW : WD g A s _ _ [(h0, .inr (7, [.ref q1, .int 0, .int 0, .int 0, .int 0, .ref q2, .ref q3, .ref q4, .ref q5, .ref q6, .null, .null, .int 0, .int 0, .int 0, .int 0, .int 0])), (q1, .inr (5, [.ref (q1 + 1), .ref (q1 + 2), .ref (q1 + 3), .int 0, .ref (q1 + 4), .int 0])), ((q1 + 1), .inl (g.2.1 1, 128, .inl (fun _ => 0))), ((q1 + 2), .inl (g.2.1 1, 128, .inl (fun _ => 0))), ((q1 + 3), .inl (g.2.1 3, 128, .inl (fun _ => 0))), ((q1 + 4), .inl (g.2.1 1, 7, .inl (fun _ => 0))), (q2, .inl (g.2.1 1, 175, .inl (fun _ => 0))), (q3, .inl (g.2.1 1, 128, .inl (fun _ => 0))), (q4, .inl (g.2.1 1, 2187, .inl (fun _ => 0))), (q5, .inl (g.2.1 1, 2187, .inl (fun _ => 0))), (q6, .inl (g.2.1 1, 2187, .inl (fun _ => 0))), (q7, .inl (g.2.1 1, 2187, .inl (fun _ => 0)))] := hW
  refine r_put (ws' := [(h0, .inr (7, [.ref q1, .int 0, .int 0, .int 0, .int 0, .ref q2, .ref q3, .ref q4, .ref q5, .ref q6, .ref q7, .null, .int 0, .int 0, .int 0, .int 0, .int 0])), (q1, .inr (5, [.ref (q1 + 1), .ref (q1 + 2), .ref (q1 + 3), .int 0, .ref (q1 + 4), .int 0])), ((q1 + 1), .inl (g.2.1 1, 128, .inl (fun _ => 0))), ((q1 + 2), .inl (g.2.1 1, 128, .inl (fun _ => 0))), ((q1 + 3), .inl (g.2.1 3, 128, .inl (fun _ => 0))), ((q1 + 4), .inl (g.2.1 1, 7, .inl (fun _ => 0))), (q2, .inl (g.2.1 1, 175, .inl (fun _ => 0))), (q3, .inl (g.2.1 1, 128, .inl (fun _ => 0))), (q4, .inl (g.2.1 1, 2187, .inl (fun _ => 0))), (q5, .inl (g.2.1 1, 2187, .inl (fun _ => 0))), (q6, .inl (g.2.1 1, 2187, .inl (fun _ => 0))), (q7, .inl (g.2.1 1, 2187, .inl (fun _ => 0)))]) X hW 0 ciX7 10 rfl (by decide) m_123 rfl rfl rfl rfl (Nat.le_of_ble_eq_true rfl) rfl dX7_init_66 (fun H locs hW => ?_)
  refine lv_aload_n (pc := 69) hx hb dX7_init_69 rfl (lv_at hl 0 rfl) ?_
  refine lv_sipush (v := 2187) (pc := 70) hx hb dX7_init_70 (by decide) ?_
  refine r_newa (a0 := (2187, .inl (fun _ => 0))) X hW .int rfl m_47 1 rfl (by intro C h; cases h) (fun _ => rfl) (by decide) (by decide) (Nat.le_of_ble_eq_true rfl) ⟨Nat.le_of_ble_eq_true rfl, Nat.le_of_ble_eq_true rfl⟩ dX7_init_73 (fun q8 H hW => ?_)
  have hW : WD g A s _ _ [(h0, .inr (7, [.ref q1, .int 0, .int 0, .int 0, .int 0, .ref q2, .ref q3, .ref q4, .ref q5, .ref q6, .ref q7, .null, .int 0, .int 0, .int 0, .int 0, .int 0])), (q1, .inr (5, [.ref (q1 + 1), .ref (q1 + 2), .ref (q1 + 3), .int 0, .ref (q1 + 4), .int 0])), ((q1 + 1), .inl (g.2.1 1, 128, .inl (fun _ => 0))), ((q1 + 2), .inl (g.2.1 1, 128, .inl (fun _ => 0))), ((q1 + 3), .inl (g.2.1 3, 128, .inl (fun _ => 0))), ((q1 + 4), .inl (g.2.1 1, 7, .inl (fun _ => 0))), (q2, .inl (g.2.1 1, 175, .inl (fun _ => 0))), (q3, .inl (g.2.1 1, 128, .inl (fun _ => 0))), (q4, .inl (g.2.1 1, 2187, .inl (fun _ => 0))), (q5, .inl (g.2.1 1, 2187, .inl (fun _ => 0))), (q6, .inl (g.2.1 1, 2187, .inl (fun _ => 0))), (q7, .inl (g.2.1 1, 2187, .inl (fun _ => 0))), (q8, .inl (g.2.1 1, 2187, .inl (fun _ => 0)))] := hW
  refine r_put (ws' := [(h0, .inr (7, [.ref q1, .int 0, .int 0, .int 0, .int 0, .ref q2, .ref q3, .ref q4, .ref q5, .ref q6, .ref q7, .ref q8, .int 0, .int 0, .int 0, .int 0, .int 0])), (q1, .inr (5, [.ref (q1 + 1), .ref (q1 + 2), .ref (q1 + 3), .int 0, .ref (q1 + 4), .int 0])), ((q1 + 1), .inl (g.2.1 1, 128, .inl (fun _ => 0))), ((q1 + 2), .inl (g.2.1 1, 128, .inl (fun _ => 0))), ((q1 + 3), .inl (g.2.1 3, 128, .inl (fun _ => 0))), ((q1 + 4), .inl (g.2.1 1, 7, .inl (fun _ => 0))), (q2, .inl (g.2.1 1, 175, .inl (fun _ => 0))), (q3, .inl (g.2.1 1, 128, .inl (fun _ => 0))), (q4, .inl (g.2.1 1, 2187, .inl (fun _ => 0))), (q5, .inl (g.2.1 1, 2187, .inl (fun _ => 0))), (q6, .inl (g.2.1 1, 2187, .inl (fun _ => 0))), (q7, .inl (g.2.1 1, 2187, .inl (fun _ => 0))), (q8, .inl (g.2.1 1, 2187, .inl (fun _ => 0)))]) X hW 0 ciX7 11 rfl (by decide) m_124 rfl rfl rfl rfl (Nat.le_of_ble_eq_true rfl) rfl dX7_init_75 (fun H locs hW => ?_)
  refine lv_iconst (v := 1) (pc := 78) hx hb dX7_init_78 (by decide) ?_
  refine lv_istore_n (lv' := [(1, .int 1), (0, .ref h0)]) (pc := 79) hx hb dX7_init_79 rfl hl (by decide) rfl (fun ls hl => ?_)
  have loop1 : ∀ (n : Nat) (i : Nat) (f : Nat → Int32), (128 < n + i) → (1 ≤ i) → (i ≤ 128) → (∀ j, j < i → f j = nI (pw3 7 j)) → ∀ (H : Heap) (locs : List Loc) (ls : Array Slot), WD g A s H locs [(h0, .inr (7, [.ref q1, .int 0, .int 0, .int 0, .int 0, .ref q2, .ref q3, .ref q4, .ref q5, .ref q6, .ref q7, .ref q8, .int 0, .int 0, .int 0, .int 0, .int 0])), (q1, .inr (5, [.ref (q1 + 1), .ref (q1 + 2), .ref (q1 + 3), .int 0, .ref (q1 + 4), .int 0])), ((q1 + 1), .inl (g.2.1 1, 128, .inl (fun _ => 0))), ((q1 + 2), .inl (g.2.1 1, 128, .inl (fun _ => 0))), ((q1 + 3), .inl (g.2.1 3, 128, .inl (fun _ => 0))), ((q1 + 4), .inl (g.2.1 1, 7, .inl (fun _ => 0))), (q2, .inl (g.2.1 1, 175, .inl (fun _ => 0))), (q3, .inl (g.2.1 1, 128, .inl f)), (q4, .inl (g.2.1 1, 2187, .inl (fun _ => 0))), (q5, .inl (g.2.1 1, 2187, .inl (fun _ => 0))), (q6, .inl (g.2.1 1, 2187, .inl (fun _ => 0))), (q7, .inl (g.2.1 1, 2187, .inl (fun _ => 0))), (q8, .inl (g.2.1 1, 2187, .inl (fun _ => 0)))] → lv_has ls 3 [(0, .ref h0), (1, .int (nI i))] → W p l e (RM 2 12 11635) s m args below meth c H locs 12 11635 Q (F0 m 80 ls []) := by
    intro n
    induction n with
    | zero =>
      intro i f hm hi hi2 hf
      exact absurd hm (by omega)
    | succ n ih1 =>
      intro i f hm hi hi2 hf H locs ls hW hl
      refine lv_iload_n (pc := 80) hx hb dX7_init_80 rfl (lv_at hl 1 rfl) ?_
      refine lv_sipush (v := 128) (pc := 81) hx hb dX7_init_81 (by decide) ?_
      refine lv_icmp_ge (tgt := 113) (pc := 84) hx hb dX7_init_84 rfl (fun c9 => ?_) (fun c9 => ?_)
      · have hf : ∀ j, j < 128 → f j = nI (pw3 7 j) := fun j hj => hf j (by have := ge_t (k := 128) (by omega) (by decide) c9; omega)
        refine lv_iconst (v := 0) (pc := 113) hx hb dX7_init_113 (by decide) ?_
        refine lv_istore_n (lv' := [(1, .int 0), (0, .ref h0)]) (pc := 114) hx hb dX7_init_114 rfl hl (by decide) rfl (fun ls hl => ?_)
        have loop2 : ∀ (n : Nat) (k : Nat) (sf : Nat → Int32), (128 < n + k) → (k ≤ 128) → (b14k_ k 0 sf) → ∀ (H : Heap) (locs : List Loc) (ls : Array Slot), WD g A s H locs [(h0, .inr (7, [.ref q1, .int 0, .int 0, .int 0, .int 0, .ref q2, .ref q3, .ref q4, .ref q5, .ref q6, .ref q7, .ref q8, .int 0, .int 0, .int 0, .int 0, .int 0])), (q1, .inr (5, [.ref (q1 + 1), .ref (q1 + 2), .ref (q1 + 3), .int 0, .ref (q1 + 4), .int 0])), ((q1 + 1), .inl (g.2.1 1, 128, .inl (fun _ => 0))), ((q1 + 2), .inl (g.2.1 1, 128, .inl (fun _ => 0))), ((q1 + 3), .inl (g.2.1 3, 128, .inl (fun _ => 0))), ((q1 + 4), .inl (g.2.1 1, 7, .inl (fun _ => 0))), (q2, .inl (g.2.1 1, 175, .inl (fun _ => 0))), (q3, .inl (g.2.1 1, 128, .inl f)), (q4, .inl (g.2.1 1, 2187, .inl sf)), (q5, .inl (g.2.1 1, 2187, .inl (fun _ => 0))), (q6, .inl (g.2.1 1, 2187, .inl (fun _ => 0))), (q7, .inl (g.2.1 1, 2187, .inl (fun _ => 0))), (q8, .inl (g.2.1 1, 2187, .inl (fun _ => 0)))] → lv_has ls 3 [(0, .ref h0), (1, .int (nI k))] → W p l e (RM 2 12 11635) s m args below meth c H locs 12 11635 Q (F0 m 115 ls []) := by
          intro n
          induction n with
          | zero =>
            intro k sf hm hk hsf
            exact absurd hm (by omega)
          | succ n ih2 =>
            intro k sf hm hk hsf H locs ls hW hl
            refine lv_iload_n (pc := 115) hx hb dX7_init_115 rfl (lv_at hl 1 rfl) ?_
            refine lv_sipush (v := 128) (pc := 116) hx hb dX7_init_116 (by decide) ?_
            refine lv_icmp_ge (tgt := 174) (pc := 119) hx hb dX7_init_119 rfl (fun c10 => ?_) (fun c10 => ?_)
            · exact e_v X hQ hr hW (u := [(h0, .inr (7, [.ref q1, .int 0, .int 0, .int 0, .int 0, .ref q2, .ref q3, .ref q4, .ref q5, .ref q6, .ref q7, .ref q8, .int 0, .int 0, .int 0, .int 0, .int 0])), (q1, .inr (5, [.ref (q1 + 1), .ref (q1 + 2), .ref (q1 + 3), .int 0, .ref (q1 + 4), .int 0])), ((q1 + 1), .inl (g.2.1 1, 128, .inl (fun _ => 0))), ((q1 + 2), .inl (g.2.1 1, 128, .inl (fun _ => 0))), ((q1 + 3), .inl (g.2.1 3, 128, .inl (fun _ => 0))), ((q1 + 4), .inl (g.2.1 1, 7, .inl (fun _ => 0))), (q2, .inl (g.2.1 1, 175, .inl (fun _ => 0))), (q3, .inl (g.2.1 1, 128, .inl f)), (q4, .inl (g.2.1 1, 2187, .inl sf)), (q5, .inl (g.2.1 1, 2187, .inl (fun _ => 0))), (q6, .inl (g.2.1 1, 2187, .inl (fun _ => 0))), (q7, .inl (g.2.1 1, 2187, .inl (fun _ => 0))), (q8, .inl (g.2.1 1, 2187, .inl (fun _ => 0)))]) [0, 1, 2, 3, 4, 5, 6, 7, 8, 9, 10, 11, 12] rfl rfl (⟨fun k => [q1, q2, q3, q4, q5, q6, q7, q8].getD k 0, f, sf, hf, b14_end hsf (ge_t (k := 128) (by omega) (by decide) c10), rfl⟩) ⟨Nat.le_of_ble_eq_true rfl, Nat.le_of_ble_eq_true rfl⟩ dX7_init_174
            · have hlt : k < 128 := ge_f (by omega) (by decide) c10
              refine lv_iconst (v := 0) (pc := 122) hx hb dX7_init_122 (by decide) ?_
              refine lv_istore_n (lv' := [(2, .int 0), (0, .ref h0), (1, .int (nI k))]) (pc := 123) hx hb dX7_init_123 rfl hl (by decide) rfl (fun ls hl => ?_)
              have loop3 : ∀ (n : Nat) (o : Nat) (so : Nat → Int32), (128 < n + o) → (o ≤ 128) → (b14k_ k o so) → ∀ (H : Heap) (locs : List Loc) (ls : Array Slot), WD g A s H locs [(h0, .inr (7, [.ref q1, .int 0, .int 0, .int 0, .int 0, .ref q2, .ref q3, .ref q4, .ref q5, .ref q6, .ref q7, .ref q8, .int 0, .int 0, .int 0, .int 0, .int 0])), (q1, .inr (5, [.ref (q1 + 1), .ref (q1 + 2), .ref (q1 + 3), .int 0, .ref (q1 + 4), .int 0])), ((q1 + 1), .inl (g.2.1 1, 128, .inl (fun _ => 0))), ((q1 + 2), .inl (g.2.1 1, 128, .inl (fun _ => 0))), ((q1 + 3), .inl (g.2.1 3, 128, .inl (fun _ => 0))), ((q1 + 4), .inl (g.2.1 1, 7, .inl (fun _ => 0))), (q2, .inl (g.2.1 1, 175, .inl (fun _ => 0))), (q3, .inl (g.2.1 1, 128, .inl f)), (q4, .inl (g.2.1 1, 2187, .inl so)), (q5, .inl (g.2.1 1, 2187, .inl (fun _ => 0))), (q6, .inl (g.2.1 1, 2187, .inl (fun _ => 0))), (q7, .inl (g.2.1 1, 2187, .inl (fun _ => 0))), (q8, .inl (g.2.1 1, 2187, .inl (fun _ => 0)))] → lv_has ls 3 [(0, .ref h0), (1, .int (nI k)), (2, .int (nI o))] → W p l e (RM 2 12 11635) s m args below meth c H locs 12 11635 Q (F0 m 124 ls []) := by
                intro n
                induction n with
                | zero =>
                  intro o so hm ho hso
                  exact absurd hm (by omega)
                | succ n ih3 =>
                  intro o so hm ho hso H locs ls hW hl
                  refine lv_iload_n (pc := 124) hx hb dX7_init_124 rfl (lv_at hl 2 rfl) ?_
                  refine lv_sipush (v := 128) (pc := 125) hx hb dX7_init_125 (by decide) ?_
                  refine lv_icmp_ge (tgt := 168) (pc := 128) hx hb dX7_init_128 rfl (fun c11 => ?_) (fun c11 => ?_)
                  · refine lv_iinc (v := nI (k + 1)) (lv' := [(1, .int (nI (k + 1))), (0, .ref h0), (2, .int (nI o))]) (pc := 168) hx hb dX7_init_168 hl (k := 1) rfl (nI_1 k) (by decide) rfl (fun ls hl => ?_)
                    refine lv_goto (tgt := 115) (pc := 171) hx hb dX7_init_171 rfl ?_
                    exact ih2 (k + 1) so (by omega) (by omega) (b14_up hso (ge_t (k := 128) (by omega) (by decide) c11)) _ _ _ hW (lv_sub hl [1, 0] rfl)
                  · have hlt3 : o < 128 := ge_f (by omega) (by decide) c11
                    refine lv_iload_n (pc := 131) hx hb dX7_init_131 rfl (lv_at hl 1 rfl) ?_
                    refine lv_iload_n (pc := 132) hx hb dX7_init_132 rfl (lv_at hl 2 rfl) ?_
                    refine lv_iand (pc := 133) hx hb dX7_init_133 ?_
                    refine lv_if_ne (tgt := 162) (pc := 134) hx hb dX7_init_134 rfl (fun c12 => ?_) (fun c12 => ?_)
                    · refine lv_iinc (v := nI (o + 1)) (lv' := [(2, .int (nI (o + 1))), (0, .ref h0), (1, .int (nI k))]) (pc := 162) hx hb dX7_init_162 hl (k := 2) rfl (nI_1 o) (by decide) rfl (fun ls hl => ?_)
                      refine lv_goto (tgt := 124) (pc := 165) hx hb dX7_init_165 rfl ?_
                      exact ih3 (o + 1) so (by omega) (by omega) (b14_skip hso fun q => c12 (by rw [fa_and, q]; rfl)) _ _ _ hW (lv_sub hl [1, 2, 0] rfl)
                    · have hz : k &&& o = 0 := by
                        have h9 : nI (k &&& o) = nI 0 := by rw [← fa_and]; exact c12
                        exact (nI_eq (Nat.lt_of_le_of_lt Nat.and_le_left (by omega)) (by decide)).mp h9
                      have hix := pw3_in k hlt o hlt3 hz
                      refine lv_aload_n (pc := 137) hx hb dX7_init_137 rfl (lv_at hl 0 rfl) ?_
                      refine r_get X hW 0 ciX7 7 rfl (by decide) m_120 rfl rfl dX7_init_138 ?_
                      refine lv_iconst (v := 2) (pc := 141) hx hb dX7_init_141 (by decide) ?_
                      refine lv_aload_n (pc := 142) hx hb dX7_init_142 rfl (lv_at hl 0 rfl) ?_
                      refine r_get X hW 0 ciX7 6 rfl (by decide) m_119 rfl rfl dX7_init_143 ?_
                      refine lv_iload_n (pc := 146) hx hb dX7_init_146 rfl (lv_at hl 1 rfl) ?_
                      refine r_iald X hW 7 rfl (vp_in_nI hlt (by decide)) dX7_init_147 ?_
                      refine lv_topi (fun v13 ev13 => ?_)
                      obtain rfl : v13 = nI (pw3 7 k) := ev13.trans (by rw [nI_clamp (by omega)]; exact hf _ hlt)
                      refine lv_imul (pc := 148) hx hb dX7_init_148 ?_
                      refine lv_topi (fun v14 ev14 => ?_)
                      obtain rfl : v14 = nI (2 * pw3 7 k) := ev14.trans (pk_mul 2 _)
                      refine lv_aload_n (pc := 149) hx hb dX7_init_149 rfl (lv_at hl 0 rfl) ?_
                      refine r_get X hW 0 ciX7 6 rfl (by decide) m_119 rfl rfl dX7_init_150 ?_
                      refine lv_iload_n (pc := 153) hx hb dX7_init_153 rfl (lv_at hl 2 rfl) ?_
                      refine r_iald X hW 7 rfl (vp_in_nI hlt3 (by decide)) dX7_init_154 ?_
                      refine lv_topi (fun v15 ev15 => ?_)
                      obtain rfl : v15 = nI (pw3 7 o) := ev15.trans (by rw [nI_clamp (by omega)]; exact hf _ hlt3)
                      refine lv_iadd (pc := 155) hx hb dX7_init_155 ?_
                      refine lv_topi (fun v16 ev16 => ?_)
                      obtain rfl : v16 = nI (2 * pw3 7 k + pw3 7 o) := ev16.trans (nI_add _ _)
                      refine lv_iload_n (pc := 156) hx hb dX7_init_156 rfl (lv_at hl 1 rfl) ?_
                      refine lv_iload_n (pc := 157) hx hb dX7_init_157 rfl (lv_at hl 2 rfl) ?_
                      refine c_Si (pc := 158) (As := [.int (nI k), .int (nI o)]) (rest := [.int (nI (2 * pw3 7 k + pw3 7 o)), .ref q4]) (wr := [(h0, .inr (7, [.ref q1, .int 0, .int 0, .int 0, .int 0, .ref q2, .ref q3, .ref q4, .ref q5, .ref q6, .ref q7, .ref q8, .int 0, .int 0, .int 0, .int 0, .int 0])), (q1, .inr (5, [.ref (q1 + 1), .ref (q1 + 2), .ref (q1 + 3), .int 0, .ref (q1 + 4), .int 0])), ((q1 + 1), .inl (g.2.1 1, 128, .inl (fun _ => 0))), ((q1 + 2), .inl (g.2.1 1, 128, .inl (fun _ => 0))), ((q1 + 3), .inl (g.2.1 3, 128, .inl (fun _ => 0))), ((q1 + 4), .inl (g.2.1 1, 7, .inl (fun _ => 0))), (q2, .inl (g.2.1 1, 175, .inl (fun _ => 0))), (q3, .inl (g.2.1 1, 128, .inl f)), (q4, .inl (g.2.1 1, 2187, .inl so)), (q5, .inl (g.2.1 1, 2187, .inl (fun _ => 0))), (q6, .inl (g.2.1 1, 2187, .inl (fun _ => 0))), (q7, .inl (g.2.1 1, 2187, .inl (fun _ => 0))), (q8, .inl (g.2.1 1, 2187, .inl (fun _ => 0)))]) X hW (C_X7_stateF l g (nI k) (nI o)) vX7_40 [] [0, 1, 2, 3, 4, 5, 6, 7, 8, 9, 10, 11, 12] rfl rfl rfl rfl rfl rfl hl.1 rfl (Nat.le_of_ble_eq_true rfl) ⟨Nat.le_of_ble_eq_true rfl, Nat.le_of_ble_eq_true rfl⟩ ⟨Nat.le_of_ble_eq_true rfl, Nat.le_of_ble_eq_true rfl⟩ dX7_init_158 (fun r17 u9 H locs hq hW => ?_)
                      obtain ⟨rfl, rfl⟩ := hq
                      have hW : WD g A s _ _ [(h0, .inr (7, [.ref q1, .int 0, .int 0, .int 0, .int 0, .ref q2, .ref q3, .ref q4, .ref q5, .ref q6, .ref q7, .ref q8, .int 0, .int 0, .int 0, .int 0, .int 0])), (q1, .inr (5, [.ref (q1 + 1), .ref (q1 + 2), .ref (q1 + 3), .int 0, .ref (q1 + 4), .int 0])), ((q1 + 1), .inl (g.2.1 1, 128, .inl (fun _ => 0))), ((q1 + 2), .inl (g.2.1 1, 128, .inl (fun _ => 0))), ((q1 + 3), .inl (g.2.1 3, 128, .inl (fun _ => 0))), ((q1 + 4), .inl (g.2.1 1, 7, .inl (fun _ => 0))), (q2, .inl (g.2.1 1, 175, .inl (fun _ => 0))), (q3, .inl (g.2.1 1, 128, .inl f)), (q4, .inl (g.2.1 1, 2187, .inl so)), (q5, .inl (g.2.1 1, 2187, .inl (fun _ => 0))), (q6, .inl (g.2.1 1, 2187, .inl (fun _ => 0))), (q7, .inl (g.2.1 1, 2187, .inl (fun _ => 0))), (q8, .inl (g.2.1 1, 2187, .inl (fun _ => 0)))] := hW
                      obtain ⟨f18, ef18⟩ : ∃ fz : Nat → Int32, upd so (nI (2 * pw3 7 k + pw3 7 o)).toNatClampNeg (nI k ||| (nI o <<< (7 &&& 31))) = fz := ⟨_, rfl⟩
                      refine r_iast (ws' := [(h0, .inr (7, [.ref q1, .int 0, .int 0, .int 0, .int 0, .ref q2, .ref q3, .ref q4, .ref q5, .ref q6, .ref q7, .ref q8, .int 0, .int 0, .int 0, .int 0, .int 0])), (q1, .inr (5, [.ref (q1 + 1), .ref (q1 + 2), .ref (q1 + 3), .int 0, .ref (q1 + 4), .int 0])), ((q1 + 1), .inl (g.2.1 1, 128, .inl (fun _ => 0))), ((q1 + 2), .inl (g.2.1 1, 128, .inl (fun _ => 0))), ((q1 + 3), .inl (g.2.1 3, 128, .inl (fun _ => 0))), ((q1 + 4), .inl (g.2.1 1, 7, .inl (fun _ => 0))), (q2, .inl (g.2.1 1, 175, .inl (fun _ => 0))), (q3, .inl (g.2.1 1, 128, .inl f)), (q4, .inl (g.2.1 1, 2187, .inl f18)), (q5, .inl (g.2.1 1, 2187, .inl (fun _ => 0))), (q6, .inl (g.2.1 1, 2187, .inl (fun _ => 0))), (q7, .inl (g.2.1 1, 2187, .inl (fun _ => 0))), (q8, .inl (g.2.1 1, 2187, .inl (fun _ => 0)))]) X hW 8 rfl (vp_in_nI hix (by decide)) ef18 rfl dX7_init_161 (fun H locs hW => ?_)
                      have hso2 : b14k_ k (o + 1) f18 := b14_put hso hlt hlt3 hz fun j => upd_at (by omega) ef18 j
                      refine lv_iinc (v := nI (o + 1)) (lv' := [(2, .int (nI (o + 1))), (0, .ref h0), (1, .int (nI k))]) (pc := 162) hx hb dX7_init_162 hl (k := 2) rfl (nI_1 o) (by decide) rfl (fun ls hl => ?_)
                      refine lv_goto (tgt := 124) (pc := 165) hx hb dX7_init_165 rfl ?_
                      exact ih3 (o + 1) f18 (by omega) (by omega) hso2 _ _ _ hW (lv_sub hl [1, 2, 0] rfl)
              exact loop3 200 0 sf (by decide) (by decide) hsf _ _ _ hW (lv_sub hl [1, 2, 0] rfl)
        exact loop2 200 0 (fun _ => 0) (by decide) (by decide) ⟨fun _ _ => (by decide : 0 ≤ (0 : Int32).toInt ∧ (0 : Int32).toInt ≤ 16383), fun x y _ _ _ h => by omega⟩ _ _ _ hW (lv_sub hl [1, 0] rfl)
      · have hlt : i < 128 := ge_f (by omega) (by decide) c9
        refine lv_aload_n (pc := 87) hx hb dX7_init_87 rfl (lv_at hl 0 rfl) ?_
        refine r_get X hW 0 ciX7 6 rfl (by decide) m_119 rfl rfl dX7_init_88 ?_
        refine lv_iload_n (pc := 91) hx hb dX7_init_91 rfl (lv_at hl 1 rfl) ?_
        refine lv_iload_n (pc := 92) hx hb dX7_init_92 rfl (lv_at hl 1 rfl) ?_
        refine lv_iconst (v := 2) (pc := 93) hx hb dX7_init_93 (by decide) ?_
        refine lv_irem (pc := 94) hx hb dX7_init_94 (by decide) ?_
        refine lv_topi (fun v19 ev19 => ?_)
        obtain rfl : v19 = nI (i % 2) := ev19.trans (pk_rem (by omega) (by decide) (by decide))
        refine lv_iconst (v := 3) (pc := 95) hx hb dX7_init_95 (by decide) ?_
        refine lv_aload_n (pc := 96) hx hb dX7_init_96 rfl (lv_at hl 0 rfl) ?_
        refine r_get X hW 0 ciX7 6 rfl (by decide) m_119 rfl rfl dX7_init_97 ?_
        refine lv_iload_n (pc := 100) hx hb dX7_init_100 rfl (lv_at hl 1 rfl) ?_
        refine lv_iconst (v := 2) (pc := 101) hx hb dX7_init_101 (by decide) ?_
        refine lv_idiv (pc := 102) hx hb dX7_init_102 (by decide) ?_
        refine lv_topi (fun v20 ev20 => ?_)
        obtain rfl : v20 = nI (i / 2) := ev20.trans (pk_div (by omega) (by decide) (by decide))
        refine r_iald X hW 7 rfl (vp_in_nI (by omega) (by decide)) dX7_init_103 ?_
        refine lv_topi (fun v21 ev21 => ?_)
        obtain rfl : v21 = nI (pw3 7 (i / 2)) := ev21.trans (by rw [nI_clamp (by omega)]; exact hf _ (by omega))
        refine lv_imul (pc := 104) hx hb dX7_init_104 ?_
        refine lv_topi (fun v22 ev22 => ?_)
        obtain rfl : v22 = nI (3 * pw3 7 (i / 2)) := ev22.trans (pk_mul 3 _)
        refine lv_iadd (pc := 105) hx hb dX7_init_105 ?_
        refine lv_topi (fun v23 ev23 => ?_)
        obtain rfl : v23 = nI (pw3 7 i) := ev23.trans ((nI_add _ _).trans (by rw [← pw3_step i hlt]))
        obtain ⟨f24, ef24⟩ : ∃ fz : Nat → Int32, upd f (nI i).toNatClampNeg (nI (pw3 7 i)) = fz := ⟨_, rfl⟩
        refine r_iast (ws' := [(h0, .inr (7, [.ref q1, .int 0, .int 0, .int 0, .int 0, .ref q2, .ref q3, .ref q4, .ref q5, .ref q6, .ref q7, .ref q8, .int 0, .int 0, .int 0, .int 0, .int 0])), (q1, .inr (5, [.ref (q1 + 1), .ref (q1 + 2), .ref (q1 + 3), .int 0, .ref (q1 + 4), .int 0])), ((q1 + 1), .inl (g.2.1 1, 128, .inl (fun _ => 0))), ((q1 + 2), .inl (g.2.1 1, 128, .inl (fun _ => 0))), ((q1 + 3), .inl (g.2.1 3, 128, .inl (fun _ => 0))), ((q1 + 4), .inl (g.2.1 1, 7, .inl (fun _ => 0))), (q2, .inl (g.2.1 1, 175, .inl (fun _ => 0))), (q3, .inl (g.2.1 1, 128, .inl f24)), (q4, .inl (g.2.1 1, 2187, .inl (fun _ => 0))), (q5, .inl (g.2.1 1, 2187, .inl (fun _ => 0))), (q6, .inl (g.2.1 1, 2187, .inl (fun _ => 0))), (q7, .inl (g.2.1 1, 2187, .inl (fun _ => 0))), (q8, .inl (g.2.1 1, 2187, .inl (fun _ => 0)))]) X hW 7 rfl (vp_in_nI hlt (by decide)) ef24 rfl dX7_init_106 (fun H locs hW => ?_)
        have hf2 : ∀ j, j < i + 1 → f24 j = nI (pw3 7 j) := fun j hj => by
          rw [upd_at (by omega) ef24 j]
          by_cases h : j = i
          · rw [if_pos h, h]
          · rw [if_neg h]; exact hf j (by omega)
        refine lv_iinc (v := nI (i + 1)) (lv' := [(1, .int (nI (i + 1))), (0, .ref h0)]) (pc := 107) hx hb dX7_init_107 hl (k := 1) rfl (nI_1 i) (by decide) rfl (fun ls hl => ?_)
        refine lv_goto (tgt := 80) (pc := 110) hx hb dX7_init_110 rfl ?_
        exact ih1 (i + 1) f24 (by omega) (by omega) (by omega) hf2 _ _ _ hW (lv_sub hl [1, 0] rfl)
  exact loop1 200 1 (fun _ => 0) (by decide) (by decide) (by decide) (fun j hj => by obtain rfl : j = 0 := (by omega); rfl) _ _ _ hW (lv_sub hl [1, 0] rfl)

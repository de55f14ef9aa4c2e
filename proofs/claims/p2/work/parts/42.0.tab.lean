/-! contracts by tables -/
theorem m_536 : (Cond.methodLink "NoonValley" 137 yX10_setDown) ∈ BW := bw (tb3 56 (by decide +kernel)) (by decide +kernel)
theorem m_537 : (Cond.instanceMethod yX10_setDown) ∈ BW := bw (tb3 57 (by decide +kernel)) (by decide +kernel)
theorem m_538 : (Cond.selects "NoonValley$Valley" yX10_setDown yX10_setDown) ∈ BW := bw (tb3 58 (by decide +kernel)) (by decide +kernel)
theorem vX11_137 : LV RX11 137 RX10 yX10_setDown cX10_setDown 3 none 2 := ⟨m_536, m_537, m_538, m_11, m_539, rfl, by decide, by decide, by decide +kernel⟩
theorem m_529 : (Cond.methodLink "NoonValley" 124 yX10_hasLine) ∈ BW := bw (tb3 49 (by decide +kernel)) (by decide +kernel)
theorem m_532 : (Cond.code yX10_hasLine prog_12_method_10_code 2 (Option.some FieldType.boolean)) ∈ BW := bw (tb3 52 (by decide +kernel)) (by decide +kernel)
theorem m_530 : (Cond.instanceMethod yX10_hasLine) ∈ BW := bw (tb3 50 (by decide +kernel)) (by decide +kernel)
theorem m_531 : (Cond.selects "NoonValley$Valley" yX10_hasLine yX10_hasLine) ∈ BW := bw (tb3 51 (by decide +kernel)) (by decide +kernel)
theorem vX11_124 : LV RX11 124 RX10 yX10_hasLine cX10_hasLine 2 (some .boolean) 1 := ⟨m_529, m_530, m_531, m_11, m_532, rfl, by decide, by decide, by decide +kernel⟩
noncomputable def nX11_down_0_0 : NODE := (0, [(0, vr 1), (1, itop), (2, itop), (3, itop)], [], (4, []), 6, [0], [1, 2], 0)
noncomputable def nX11_down_0_1 : NODE := (33, [(0, vr 1), (1, itop), (2, itop), (3, itop)], [], (0, []), 2, [], [], 0)
noncomputable def nX11_down_0_2 : NODE := (12, [(0, vr 1), (1, itop), (2, itop), (3, itop), (4, vr 3)], [], (3, []), 4, [1], [1, 3], 0)
noncomputable def nX11_down_0_3 : NODE := (21, [(0, vr 1), (1, itop), (2, vi 0 11), (3, itop), (4, vr 3)], [], (2, []), 3, [], [4, 5], 0)
noncomputable def nX11_down_0_4 : NODE := (35, [(0, vr 1), (1, itop), (2, vi 0 11), (3, vj (-1) 24), (4, vr 3)], [], (0, []), 6, [2], [], 0)
noncomputable def nX11_down_0_5 : NODE := (26, [(0, vr 1), (1, itop), (2, vi 0 11), (3, itop), (4, vr 3)], [], (1, []), 3, [3], [4, 1], 0)
noncomputable def nX11_down_0 : Nat → NODE := fun i => bif Nat.blt i 3 then bif Nat.blt i 1 then nX11_down_0_0 else bif Nat.blt i 2 then nX11_down_0_1 else nX11_down_0_2 else bif Nat.blt i 4 then nX11_down_0_3 else bif Nat.blt i 5 then nX11_down_0_4 else nX11_down_0_5
noncomputable def pX11_down_0 : SPEC := (7, [vr 1, itop, itop, itop], vi 0 1, [(1, 1, 2, vi 0 11), (1, 1, 3, vj (-1) 24)], [(25, 0), (26, 0)], [])
noncomputable def kX11_down_0 : CAL := [(0, 101, 1, 11, pX11_valleyAt_0), (0, 124, 1, 10, pX10_hasLine_0), (0, 137, 2, 10, pX10_setDown_h0), (1, 134, 1, 0, pX11_isHour_0)]
theorem SX11_down_0 (l : Launch) (g : GG) : SM l g TS0 yX11_down cX11_down 5 (some .boolean) pX11_down_0 := SM_of (own := RX11) DX11_down rfl (by decide) (rk := 1) (Or.inr (Or.inl ⟨rfl, rfl⟩)) hFX11 hGX11 hKX11 hLX11 nX11_down_0 6 kX11_down_0 [(0, 0), (1, 1), (2, 2), (3, 3)] 5 (CA_cons (COV (SX11_valleyAt_0 l g) (by decide) vX11_101 rfl) (CA_cons (COV (SX10_hasLine_0 l g) (by decide) vX11_124 rfl) (CA_cons (COV (SX10_setDown_h0 l g) (by decide) vX11_137 rfl) (CA_cons (COS (SX11_isHour_0 l g) (by decide) vX11_134) (CA_nil))))) (by decide +kernel)
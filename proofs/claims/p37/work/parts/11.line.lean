/-- the one exception of the class -/
def XNN : String := "java/util/NoSuchElementException"
def XUP : List String := ["java/lang/RuntimeException", "java/lang/Exception"]
abbrev XAT : List Cond := vx_at0 RX11 129 XNN XUP
abbrev XNG : List Cond := [Cond.castable XNN XNN, Cond.declares (Bundle.init0 "java/lang/RuntimeException"), Cond.declares (Bundle.init0 "java/lang/Exception"), Cond.declares (Bundle.init0 Bundle.tN)]
theorem xat_ng : ∀ w ∈ XAT.filter (fun w => !goodWord w), w ∈ XNG := by decide +kernel
def XNW (U : State) : Prop := va_Nw (.castable XNN XNN) U ∧ va_Nw (.declares (Bundle.init0 "java/lang/RuntimeException")) U ∧ va_Nw (.declares (Bundle.init0 "java/lang/Exception")) U ∧ va_Nw (.declares (Bundle.init0 Bundle.tN)) U
theorem xat_in : (XAT.filter goodWord).all (fun w => decide (w ∈ lw_tbl)) = true := by decide +kernel
theorem xat_bw : ∀ w ∈ XAT.filter goodWord, w ∈ BW := fun w hw => bw (of_decide_eq_true (List.all_eq_true.mp xat_in w hw)) (List.mem_filter.mp hw).2
theorem xat_ot : (Cond.classLink RX11 127 XNN :: Cond.initialized XNN :: XAT).all vx_ot = true := by decide +kernel
def THR (A : Nat → Prop) (U : State) (H : Heap) : Prop := vx_Zq Bundle.tN "UNASSIGNED_STACK" Bundle.steD A U H ∧ vx_Zq Bundle.tN "SUPPRESSED_SENTINEL" Bundle.listD A U H ∧ XNW U
def PREX (g : GG) (ws : va_W) (sz : Nat) : State → Prop := fun U => PRE g ws sz U ∧ THR (va_A ws sz) U U.heap
theorem PREX.blind {g : GG} {ws : va_W} {sz : Nat} {As : List Value} : FrameBlind (va_Pc As (PREX g ws sz)) := by
  intro a U f mk q
  obtain ⟨q0, q1, q2, q3, q4⟩ := q
  have h := PRE.blind (g := g) (ws := ws) (sz := sz) (As := As) a U f mk ⟨q0, q1⟩
  exact ⟨h.1, h.2, vx_Zq.moved (u := U) (U := U.calling f mk a) (Vm.Alike.refl U.vm) q2, vx_Zq.moved (u := U) (U := U.calling f mk a) (Vm.Alike.refl U.vm) q3, va_Nw.same rfl rfl q4.1, va_Nw.same rfl rfl q4.2.1, va_Nw.same rfl rfl q4.2.2.1, va_Nw.same rfl rfl q4.2.2.2⟩
theorem THR.pre {g : GG} {A : Nat → Prop} {s U : State} {H : Heap} {locs : List Loc} {ws wc : va_W} (hT : THR A s s.heap) (hW : WD g A s H locs ws) (hF : ∀ q, va_A wc H.size q → A q) (hU : U.heap = H) (hWm : s.WarmedH U.vm) : THR (va_A wc H.size) U U.heap := by
  rw [hU]
  exact ⟨((hT.1.moved hWm.alike).kept hW.2.2.2.1).narrow hF, ((hT.2.1.moved hWm.alike).kept hW.2.2.2.1).narrow hF, va_Nw.warmC hWm hT.2.2.1, va_Nw.warmD hWm hT.2.2.2.1, va_Nw.warmD hWm hT.2.2.2.2.1, va_Nw.warmD hWm hT.2.2.2.2.2⟩
theorem dX11_line_0 : decode cX11_line 0 = .ok (.aload_n 0, 1) := DX11_line _ _ _ rfl
theorem dX11_line_1 : decode cX11_line 1 = .ok (.iload_n 1, 1) := DX11_line _ _ _ rfl
theorem dX11_line_2 : decode cX11_line 2 = .ok (.invokevirtual 101, 3) := DX11_line _ _ _ rfl
theorem dX11_line_5 : decode cX11_line 5 = .ok (.astore 4, 2) := DX11_line _ _ _ rfl
theorem dX11_line_7 : decode cX11_line 7 = .ok (.aload 4, 2) := DX11_line _ _ _ rfl
theorem dX11_line_9 : decode cX11_line 9 = .ok (.ifnull 22, 3) := DX11_line _ _ _ rfl
theorem dX11_line_31 : decode cX11_line 31 = .ok (.new 127, 3) := DX11_line _ _ _ rfl
theorem dX11_line_34 : decode cX11_line 34 = .ok (.dup, 1) := DX11_line _ _ _ rfl
theorem dX11_line_35 : decode cX11_line 35 = .ok (.invokespecial 129, 3) := DX11_line _ _ _ rfl
theorem dX11_line_38 : decode cX11_line 38 = .ok (.athrow, 1) := DX11_line _ _ _ rfl
theorem dL_line_0 : decode cL_line 0 = .ok (.aload 4, 2) := DL_line _ _ _ rfl
theorem dL_line_2 : decode cL_line 2 = .ok (.iconst 0, 1) := DL_line _ _ _ rfl
theorem dL_line_3 : decode cL_line 3 = .ok (.aload_n 0, 1) := DL_line _ _ _ rfl
theorem dL_line_4 : decode cL_line 4 = .ok (.iload_n 1, 1) := DL_line _ _ _ rfl
theorem dL_line_5 : decode cL_line 5 = .ok (.iload_n 2, 1) := DL_line _ _ _ rfl
theorem dL_line_6 : decode cL_line 6 = .ok (.iload_n 3, 1) := DL_line _ _ _ rfl
theorem dL_line_7 : decode cL_line 7 = .ok (.invokevirtual 7, 3) := DL_line _ _ _ rfl
theorem dL_line_15 : decode cL_line 15 = .ok (.astore 5, 2) := DL_line _ _ _ rfl
theorem dL_line_17 : decode cL_line 17 = .ok (.iconst 1, 1) := DL_line _ _ _ rfl
theorem dL_line_18 : decode cL_line 18 = .ok (.ireturn, 1) := DL_line _ _ _ rfl
theorem m_1157 : (Cond.methodLink "NoonValleyLaw" 7 yX11_line) ∈ BW := bw (tb5 197 (by decide +kernel)) (by decide +kernel)
theorem m_1160 : (Cond.code yX11_line prog_1_method_7_code 5 (Option.some FieldType.int)) ∈ BW := bw (tb5 200 rfl) (by decide +kernel)
theorem m_1158 : (Cond.instanceMethod yX11_line) ∈ BW := bw (tb5 198 (by decide +kernel)) (by decide +kernel)
theorem m_1159 : (Cond.selects "NoonValley" yX11_line yX11_line) ∈ BW := bw (tb5 199 (by decide +kernel)) (by decide +kernel)
theorem vL_7 : LV RL 7 RX11 yX11_line cX11_line 5 (some .int) 3 := ⟨m_1157, m_1158, m_1159, m_1, m_1160, rfl, by decide, by decide, by decide +kernel⟩
theorem m_1161 : (Cond.classLink "NoonValley" 127 "java/util/NoSuchElementException") ∈ BW := bw (tb5 201 (by decide +kernel)) (by decide +kernel)
theorem m_17 : (Cond.initialized "java/util/NoSuchElementException") ∈ BW := bw (tb1 17 (by decide +kernel)) (by decide +kernel)
theorem m_1156 : (Cond.classLink "NoonValleyLaw" 13 "java/util/NoSuchElementException") ∈ BW := bw (tb5 196 (by decide +kernel)) (by decide +kernel)
theorem m_lline : Cond.codeWith yL_line cL_line 6 (some .int) [(0, 12, 15, 13)] ∈ BW := bw (tb5 195 (by decide +kernel)) (by decide +kernel)

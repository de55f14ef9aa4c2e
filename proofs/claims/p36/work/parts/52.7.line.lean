theorem hl_im {g : GG} {Γ : Nat → Nat} {As : List Value} {b : Int32} {v : Value} (him : ∀ q ∈ pX10_hasLine_0.2.2.2.1, ∀ x : Int32, Value.int b = .int x → q.1 ≤ x.toInt → x.toInt ≤ q.2.1 → ∃ u, As[q.2.2.1]? = some u ∧ avi g Γ q.2.2.2 u) (e : As[1]? = some v) (h0 : (0 : Int) ≤ b.toInt) (h1 : b.toInt ≤ (1 : Int)) (hn : ¬ b = 0) : avi g Γ (vi 0 11) v := by
  have hb : b.toInt = 1 := by
    rcases bool_01 h0 h1 with h | h
    · exact absurd h hn
    · rw [h]; rfl
  obtain ⟨u, h2, h3⟩ := him (1, 1, 1, vi 0 11) List.mem_cons_self b rfl (by rw [hb]; exact Int.le_refl _) (by rw [hb]; exact Int.le_refl _)
  rw [show ((1, 1, 1, vi 0 11) : Int × Int × Nat × AV).2.2.1 = 1 from rfl, e] at h2
  cases h2
  exact h3
theorem i32_06 {x : Int32} (h0 : ¬ x < 0) (h1 : x < 6) : x = 0 ∨ x = 1 ∨ x = 2 ∨ x = 3 ∨ x = 4 ∨ x = 5 := by
  have h0 : (0 : Int32).toInt ≤ x.toInt := Int32.le_iff_toInt_le.mp (Int32.not_lt.mp h0)
  have h1 : x.toInt < (6 : Int32).toInt := Int32.lt_iff_toInt_lt.mp h1
  have e0 : (0 : Int32).toInt = 0 := rfl
  have e6 : (6 : Int32).toInt = 6 := rfl
  have : x.toInt = 0 ∨ x.toInt = 1 ∨ x.toInt = 2 ∨ x.toInt = 3 ∨ x.toInt = 4 ∨ x.toInt = 5 := by omega
  rcases this with h | h | h | h | h | h
  · exact Or.inl (Int32.toInt_inj.mp h)
  · exact Or.inr (Or.inl (Int32.toInt_inj.mp h))
  · exact Or.inr (Or.inr (Or.inl (Int32.toInt_inj.mp h)))
  · exact Or.inr (Or.inr (Or.inr (Or.inl (Int32.toInt_inj.mp h))))
  · exact Or.inr (Or.inr (Or.inr (Or.inr (Or.inl (Int32.toInt_inj.mp h)))))
  · exact Or.inr (Or.inr (Or.inr (Or.inr (Or.inr (Int32.toInt_inj.mp h)))))
def LPRE (g : GG) (x0 m0 : Nat) (Γ : Nat → Nat) (sz : Nat) (As : List Value) : State → Prop := fun U => U.heap.size = sz ∧ SPRE g TS0 Γ As [] U ∧ LF g x0 m0 Γ U.heap ∧ THR (AA Γ sz) U U.heap
theorem LPRE.blind {g : GG} {x0 m0 sz : Nat} {Γ : Nat → Nat} {As Bs : List Value} : FrameBlind (va_Pc As (LPRE g x0 m0 Γ sz Bs)) := by
  intro a U f mk q
  obtain ⟨q0, q1, q2, q3, q4, q5, q6⟩ := q
  have h := GPRE.blind (g := g) (x0 := x0) (m0 := m0) (sz := sz) (Γ := Γ) (As := As) (Bs := Bs) a U f mk ⟨q0, q1, q2, q3⟩
  exact ⟨h.1, h.2.1, h.2.2.1, h.2.2.2, vx_Zq.moved (u := U) (U := U.calling f mk a) (Vm.Alike.refl U.vm) q4, vx_Zq.moved (u := U) (U := U.calling f mk a) (Vm.Alike.refl U.vm) q5, va_Nw.same rfl rfl q6.1, va_Nw.same rfl rfl q6.2.1, va_Nw.same rfl rfl q6.2.2.1, va_Nw.same rfl rfl q6.2.2.2⟩
abbrev LB (g : GG) (x0 m0 : Nat) (Γ : Nat → Nat) : State → Prop := fun t => HT g TS0 Γ t.heap ∧ LF g x0 m0 Γ t.heap
theorem dX11_line_12 : decode cX11_line 12 = .ok (.aload 4, 2) := DX11_line _ _ _ rfl
theorem dX11_line_14 : decode cX11_line 14 = .ok (.iload_n 2, 1) := DX11_line _ _ _ rfl
theorem dX11_line_15 : decode cX11_line 15 = .ok (.invokevirtual 124, 3) := DX11_line _ _ _ rfl
theorem dX11_line_18 : decode cX11_line 18 = .ok (.ifCond .eq 13, 3) := DX11_line _ _ _ rfl
theorem dX11_line_21 : decode cX11_line 21 = .ok (.iload_n 3, 1) := DX11_line _ _ _ rfl
theorem dX11_line_22 : decode cX11_line 22 = .ok (.ifCond .lt 9, 3) := DX11_line _ _ _ rfl
theorem dX11_line_25 : decode cX11_line 25 = .ok (.iload_n 3, 1) := DX11_line _ _ _ rfl
theorem dX11_line_26 : decode cX11_line 26 = .ok (.bipush 6, 2) := DX11_line _ _ _ rfl
theorem dX11_line_28 : decode cX11_line 28 = .ok (.if_icmp .lt 11, 3) := DX11_line _ _ _ rfl
theorem dX11_line_39 : decode cX11_line 39 = .ok (.aload 4, 2) := DX11_line _ _ _ rfl
theorem dX11_line_41 : decode cX11_line 41 = .ok (.iload_n 2, 1) := DX11_line _ _ _ rfl
theorem dX11_line_42 : decode cX11_line 42 = .ok (.iload_n 3, 1) := DX11_line _ _ _ rfl
theorem m_1222 : (Cond.methodLink "NoonValley" 130 yX10_lineFact) ∈ BW := bw (tb6 22 rfl) (by decide +kernel)
theorem vX11_130 : LV RX11 130 RX10 yX10_lineFact cX10_lineFact 3 (some .int) 2 := ⟨m_1222, m_498, m_499, m_11, m_500, rfl, by decide, by decide, by decide +kernel⟩
theorem dX11_line_43 : decode cX11_line 43 = .ok (.invokevirtual 130, 3) := DX11_line _ _ _ rfl
theorem dX11_line_46 : decode cX11_line 46 = .ok (.ireturn, 1) := DX11_line _ _ _ rfl

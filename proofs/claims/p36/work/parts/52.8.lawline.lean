theorem dL_line_10 : decode cL_line 10 = .ok (.i2l, 1) := DL_line _ _ _ rfl
theorem dL_line_11 : decode cL_line 11 = .ok (.lastore, 1) := DL_line _ _ _ rfl
theorem dL_line_12 : decode cL_line 12 = .ok (.goto 7, 3) := DL_line _ _ _ rfl
theorem dL_line_19 : decode cL_line 19 = .ok (.iconst 0, 1) := DL_line _ _ _ rfl
theorem dL_line_20 : decode cL_line 20 = .ok (.ireturn, 1) := DL_line _ _ _ rfl
def AO (Γ : Nat → Nat) (o0 sz : Nat) : Nat → Prop := fun q => AA Γ sz q ∨ q = o0
/-- the law's row of one long -/
def ORW (g : GG) (o0 : Nat) (H : Heap) : Prop := ∃ f : Nat → Int64, va_at g.1 CLS (o0, .inl (g.2.1 2, (1, .inr (.inl f)))) H
def OPRE (g : GG) (x0 m0 o0 : Nat) (Γ : Nat → Nat) (sz : Nat) : State → Prop := fun U => U.heap.size = sz ∧ HT g TS0 Γ U.heap ∧ KX g U ∧ TB g (AO Γ o0 sz) U U.heap ∧ LF g x0 m0 Γ U.heap ∧ THR (AO Γ o0 sz) U U.heap ∧ ORW g o0 U.heap
theorem OPRE.blind {g : GG} {x0 m0 o0 sz : Nat} {Γ : Nat → Nat} {As : List Value} : FrameBlind (va_Pc As (OPRE g x0 m0 o0 Γ sz)) := by
  intro a U f mk q
  obtain ⟨q0, q1, q2, qK, qT, qL, ⟨q4, q5, q6⟩, qO⟩ := q
  exact ⟨q0, q1, q2, qK.calling, TB.moved (u := U) (U := U.calling f mk a) (Vm.Alike.refl U.vm) qT, qL, ⟨vx_Zq.moved (u := U) (U := U.calling f mk a) (Vm.Alike.refl U.vm) q4, vx_Zq.moved (u := U) (U := U.calling f mk a) (Vm.Alike.refl U.vm) q5, va_Nw.same rfl rfl q6.1, va_Nw.same rfl rfl q6.2.1, va_Nw.same rfl rfl q6.2.2.1, va_Nw.same rfl rfl q6.2.2.2⟩, qO⟩
/-- what throwing needs, for a callee -/
theorem THR.sub {A B : Nat → Prop} {s U : State} {H : Heap} {locs : List Loc} (hT : THR A s s.heap) (hS : va_S A s.heap H locs) (hF : ∀ q, B q → A q) (hU : U.heap = H) (hWm : s.WarmedH U.vm) : THR B U U.heap := by
  rw [hU]
  exact ⟨((hT.1.moved hWm.alike).kept hS.2.1).narrow hF, ((hT.2.1.moved hWm.alike).kept hS.2.1).narrow hF, va_Nw.warmC hWm hT.2.2.1, va_Nw.warmD hWm hT.2.2.2.1, va_Nw.warmD hWm hT.2.2.2.2.1, va_Nw.warmD hWm hT.2.2.2.2.2⟩

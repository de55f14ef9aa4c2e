/-! line, and the law's line: no tagged cell changes -/
def LFU (g : GG) (x0 m0 : Nat) (Γ : Nat → Nat) (Hs H : Heap) : Prop := Γ x0 = 1 ∧ LF g x0 m0 Γ H ∧ Un g TS0 Γ [] Hs H
theorem LFU.keep {g : GG} {x0 m0 : Nat} {Γ : Nat → Nat} {Hs H H1 : Heap} (h : LFU g x0 m0 Γ Hs H) (hu : Un g TS0 Γ [] H H1) (_ : True) : LFU g x0 m0 Γ Hs H1 := ⟨h.1, h.2.1.keep hu rfl, fun q hq => (h.2.2 q hq).trans (hu q hq)⟩
theorem LFU.same {g : GG} {x0 m0 : Nat} {Γ : Nat → Nat} {Hs H H1 : Heap} (h : LFU g x0 m0 Γ Hs H) (he : ∀ q : Nat, Γ q ≠ 0 → H1[q]? = H[q]?) : LFU g x0 m0 Γ Hs H1 := ⟨h.1, h.2.1.same he, fun q hq => (h.2.2 q hq).trans (Un1.same (he q hq))⟩
def LPREU (g : GG) (x0 m0 : Nat) (Γ : Nat → Nat) (Hs : Heap) (sz : Nat) (As : List Value) : State → Prop := fun U => U.heap.size = sz ∧ SPRE g TS0 Γ As [] U ∧ LFU g x0 m0 Γ Hs U.heap ∧ THR (AA Γ sz) U U.heap
theorem LPREU.blind {g : GG} {x0 m0 sz : Nat} {Γ : Nat → Nat} {Hs : Heap} {As Bs : List Value} : FrameBlind (va_Pc As (LPREU g x0 m0 Γ Hs sz Bs)) := by
  intro a U f mk q
  obtain ⟨q0, q1, q2, q3, q4, q5, q6⟩ := q
  have h := SPRE.blind (g := g) (ts := TS0) (Γ := Γ) (As := As) (Bs := Bs) (pf := []) a U f mk ⟨q0, q2⟩
  exact ⟨q0, q1, h.2, q3, vx_Zq.moved (u := U) (U := U.calling f mk a) (Vm.Alike.refl U.vm) q4, vx_Zq.moved (u := U) (U := U.calling f mk a) (Vm.Alike.refl U.vm) q5, va_Nw.same rfl rfl q6.1, va_Nw.same rfl rfl q6.2.1, va_Nw.same rfl rfl q6.2.2.1, va_Nw.same rfl rfl q6.2.2.2⟩
abbrev LBU (g : GG) (x0 m0 : Nat) (Γ : Nat → Nat) (Hs : Heap) : State → Prop := fun t => HT g TS0 Γ t.heap ∧ LFU g x0 m0 Γ Hs t.heap
def OPREU (g : GG) (x0 m0 o0 : Nat) (Γ : Nat → Nat) (Hs : Heap) (sz : Nat) : State → Prop := fun U => U.heap.size = sz ∧ HT g TS0 Γ U.heap ∧ KX g U ∧ TB g (AO Γ o0 sz) U U.heap ∧ LFU g x0 m0 Γ Hs U.heap ∧ THR (AO Γ o0 sz) U U.heap ∧ ORW g o0 U.heap
theorem OPREU.blind {g : GG} {x0 m0 o0 sz : Nat} {Γ : Nat → Nat} {Hs : Heap} {As : List Value} : FrameBlind (va_Pc As (OPREU g x0 m0 o0 Γ Hs sz)) := by
  intro a U f mk q
  obtain ⟨q0, q1, q2, qK, qT, qL, ⟨q4, q5, q6⟩, qO⟩ := q
  exact ⟨q0, q1, q2, qK.calling, TB.moved (u := U) (U := U.calling f mk a) (Vm.Alike.refl U.vm) qT, qL, ⟨vx_Zq.moved (u := U) (U := U.calling f mk a) (Vm.Alike.refl U.vm) q4, vx_Zq.moved (u := U) (U := U.calling f mk a) (Vm.Alike.refl U.vm) q5, va_Nw.same rfl rfl q6.1, va_Nw.same rfl rfl q6.2.1, va_Nw.same rfl rfl q6.2.2.1, va_Nw.same rfl rfl q6.2.2.2⟩, qO⟩

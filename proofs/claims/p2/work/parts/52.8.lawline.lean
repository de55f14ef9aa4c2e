theorem dL_line_10 : decode cL_line 10 = .ok (.i2l, 1) := by decide +kernel
theorem dL_line_11 : decode cL_line 11 = .ok (.lastore, 1) := by decide +kernel
theorem dL_line_12 : decode cL_line 12 = .ok (.goto 7, 3) := by decide +kernel
theorem dL_line_19 : decode cL_line 19 = .ok (.iconst 0, 1) := by decide +kernel
theorem dL_line_20 : decode cL_line 20 = .ok (.ireturn, 1) := by decide +kernel
def AO (Γ : Nat → Nat) (o0 sz : Nat) : Nat → Prop := fun q => AA Γ sz q ∨ q = o0
/-- the law's row of one long -/
def ORW (g : GG) (o0 : Nat) (H : Heap) : Prop := ∃ f : Nat → Int64, va_at g.1 CLS (o0, .inl (g.2.1 2, (1, .inr (.inl f)))) H
def OPRE (g : GG) (x0 m0 o0 : Nat) (Γ : Nat → Nat) (sz : Nat) : State → Prop := fun U => U.heap.size = sz ∧ HT g TS0 Γ U.heap ∧ KX g U ∧ TB g (AO Γ o0 sz) U U.heap ∧ LF g x0 m0 Γ U.heap ∧ THR (AO Γ o0 sz) U U.heap ∧ ORW g o0 U.heap
theorem OPRE.blind {g : GG} {x0 m0 o0 sz : Nat} {Γ : Nat → Nat} {As : List Value} : FrameBlind (va_Pc As (OPRE g x0 m0 o0 Γ sz)) := by
  intro a U f mk q
  obtain ⟨q0, q1, q2, qK, qT, qL, ⟨q4, q5, q6⟩, qO⟩ := q
  exact ⟨q0, q1, q2, qK.calling, TB.moved (u := U) (U := U.calling f mk a) (Vm.Alike.refl U.vm) qT, qL, ⟨vx_Zq.moved (u := U) (U := U.calling f mk a) (Vm.Alike.refl U.vm) q4, vx_Zq.moved (u := U) (U := U.calling f mk a) (Vm.Alike.refl U.vm) q5, va_Nw.same rfl rfl q6.1, va_Nw.same rfl rfl q6.2.1, va_Nw.same rfl rfl q6.2.2.1, va_Nw.same rfl rfl q6.2.2.2⟩, qO⟩
/-- what throwing needs, for a callee -/
theorem THR.sub {A B : Nat → Prop} {s U : State} {H : Heap} {locs : List Loc} (hT : THR A s s.heap) (hS : va_S A s.heap H locs) (hF : ∀ q, B q → A q) (hU : U.heap = H) (hWm : s.WarmedH U.vm) : THR B U U.heap := by
  rw [hU]
  exact ⟨((hT.1.moved hWm.alike).kept hS.2.1).narrow hF, ((hT.2.1.moved hWm.alike).kept hS.2.1).narrow hF, va_Nw.warmC hWm hT.2.2.1, va_Nw.warmD hWm hT.2.2.2.1, va_Nw.warmD hWm hT.2.2.2.2.1, va_Nw.warmD hWm hT.2.2.2.2.2⟩
theorem LF.sameT {g : GG} {x0 m0 : Nat} {Γ : Nat → Nat} {H H1 : Heap} (h : LF g x0 m0 Γ H) (he : ∀ q : Nat, Γ q ≠ 0 → H1[q]? = H[q]?) : LF g x0 m0 Γ H1 := h.same he
set_option maxHeartbeats 4000000 in
set_option maxRecDepth 100000 in
theorem GL_line (l : Launch) (hfl : l.stackTraces = false) (g : GG) (x0 m0 o0 : Nat) (p0 p1 p2 : Int32) (Γ : Nat → Nat) (sz : Nat) (hU : UQ TS0 Γ) (ho : Γ o0 = 0) : Met l yL_line (Cond.codeWith yL_line cL_line 6 (some .int) [(0, 12, 15, 13)] :: BW) (RM 8 1 6) (va_Pc [.ref x0, .int p0, .int p1, .int p2, .ref o0] (OPRE g x0 m0 o0 Γ sz)) (fun _ st o t => ∃ r : Int32, o = .returned (some (.int r)) ∧ LB g x0 m0 Γ t ∧ ORW g o0 t.heap ∧ va_F (AO Γ o0 sz) st t) 1 6 (AO Γ o0 sz) := by
  refine va_MetW (cc := cL_line) (maxL := 6) (ret := (some .int)) (hh := [(0, 12, 15, 13)]) (by decide) rfl ?_
  intro p e s m args below meth c s₁ B hml hv
  obtain ⟨rfl, hsz, hT, hK, hTB, hL, hTh, f0, hO⟩ := hv
  subst hsz
  have hts := atoms_spec (ws := Cond.codeWith yL_line cL_line 6 (some .int) [(0, 12, 15, 13)] :: BW) B.pre
  have htab := vx_table (x := yL_line) B (hts _ List.mem_cons_self)
  have hl := lv_entry ([.ref x0, .int p0, .int p1, .int p2, .ref o0]) (n := 6) (Nat.le_of_ble_eq_true rfl)
  rw [lg_entry_eq]
  generalize (lg_sl ([.ref x0, .int p0, .int p1, .int p2, .ref o0]) ++ List.replicate (6 - (lg_sl ([.ref x0, .int p0, .int p1, .int p2, .ref o0])).length) Slot.unset).toArray = ls at hl ⊢
  have hl : lv_has ls 6 [(0, .ref x0), (1, .int p0), (2, .int p1), (3, .int p2), (4, .ref o0)] := hl
  have X : CTX p l m meth c cL_line 6 s _ RL g (AO Γ o0 s.heap.size) := ⟨B.exec, B.bytes, hml, findClass_of_methodNamed B.named, fun w h => hts w (List.mem_cons_of_mem _ h), hK, hTB, fun q h => Or.inl (Or.inr h), B.notSynchronized⟩
  have hF : FR g (AO Γ o0 s.heap.size) s Γ s.heap [] := ⟨hT, hU, fun q h => Or.inl (Or.inl h), va_S.rf⟩
  have hx := X.1
  have hb := X.2.1
  have hr := B.returns
  have hAA : ∀ q, AA Γ s.heap.size q → AO Γ o0 s.heap.size q := fun q h => Or.inl h
  refine lv_aload (pc := 0) hx hb dL_line_0 (lv_at hl 4 rfl) ?_
  refine lv_iconst (v := 0) (pc := 2) hx hb dL_line_2 (by decide) ?_
  refine lv_aload_n (pc := 3) hx hb dL_line_3 rfl (lv_at hl 0 rfl) ?_
  refine lv_iload_n (pc := 4) hx hb dL_line_4 rfl (lv_at hl 1 rfl) ?_
  refine lv_iload_n (pc := 5) hx hb dL_line_5 rfl (lv_at hl 2 rfl) ?_
  refine lv_iload_n (pc := 6) hx hb dL_line_6 rfl (lv_at hl 3 rfl) ?_
  refine vx_calli (vx_runV (As := [.int p0, .int p1, .int p2]) (rest := [.int 0, .ref o0]) ⟨X.1, X.2.1, X.2.2.1, X.2.2.2.1, X.2.2.2.2.1⟩ (GX11_line l hfl g x0 m0 p0 p1 p2 Γ s.heap.size hU) (k_cwV X vL_7 ⟨Nat.le_of_ble_eq_true rfl, Nat.le_of_ble_eq_true rfl⟩) ⟨LPRE.blind, f_recv X hF (by rw [hL.1]; decide) ((congrArg TS0.1 hL.1).trans rfl) rfl, fun U hU2 hWm => ⟨rfl, by rw [hU2], f_pre X hF U hU2 hWm rfl, by rw [hU2]; exact hL, hTh.sub va_S.rf hAA hU2 hWm⟩⟩ rfl rfl hl.1 rfl (lv_room (Nat.le_of_ble_eq_true rfl)) dL_line_7 ⟨Nat.le_of_ble_eq_true rfl, Nat.le_of_ble_eq_true rfl⟩) hF.2.2.2 (fun q _ h => hAA q h) hAA (fun q _ h => hAA q h)
    (fun E ce q9 u t H1 locs1 ht hvm _ hE hz1 hk1 hS hce hcv hcl => ?_) (fun r u t H1 locs1 ht hvm _ hB hz1 hk1 hS => ?_)
  · obtain ⟨rfl, hB1, hB2⟩ := hE
    have hO1 : ORW g o0 H1 := ⟨f0, hO.kept (hk1 o0 hO.lt fun h => h.elim (fun h => h ho) (fun h => absurd hO.lt (Nat.not_lt.mpr h)))⟩
    refine vx_catch (own := RL) (name := XNN) X.2.2.2.1 [] ⟨0, 12, 15, 13⟩ [] (by rw [htab]; rfl) (fun z hz => absurd hz List.not_mem_nil) (by decide) (by decide) (X.2.2.2.2.1 _ m_1156) (va_Nw.use rfl hTh.2.2.1) hce hcv hcl ?_
    refine lv_astore (lv' := [(5, .ref q9), (0, .ref x0), (1, .int p0), (2, .int p1), (3, .int p2), (4, .ref o0)]) (pc := 15) hx hb dL_line_15 hl (by decide) rfl (fun ls hl => ?_)
    refine lv_iconst (v := 1) (pc := 17) hx hb dL_line_17 (by decide) ?_
    refine W.widen (k := 1) (n := 6) (Nat.le_of_ble_eq_true rfl) (Nat.le_of_ble_eq_true rfl) ?_
    exact W.iret hx hb hr (fun t2 ht2 _ => ⟨1, rfl, by rw [LB, ht2, ← ht]; exact ⟨hB1, hB2⟩, by rw [ht2]; exact hO1, hS.F ht2⟩) hS.2.2 dL_line_18 X.2.2.2.2.2.2.2.2
  · obtain ⟨hB1, hB2⟩ := hB
    rw [ht] at hB1 hB2
    have hO1 : va_at g.1 CLS (o0, .inl (g.2.1 2, (1, .inr (.inl f0)))) H1 := hO.kept (hk1 o0 hO.lt fun h => h.elim (fun h => h ho) (fun h => absurd hO.lt (Nat.not_lt.mpr h)))
    refine lv_i2l (pc := 10) hx hb dL_line_10 rfl ?_
    refine W.last hx hb hO1 ((X.2.2.2.2.2.1.1.2 2 _ rfl).1 1 (fun j => .long (f0 j))) (fun q => by cases q) (by show ¬ ((0 : Int32) < 0 ∨ (arrV _ 1 _).slots.size ≤ _); rw [arrV_size]; decide) rfl rfl dL_line_11 fun H2 e1 e2 e3 => ?_
    refine lv_goto (tgt := 19) (pc := 12) hx hb dL_line_12 rfl ?_
    refine lv_iconst (v := 0) (pc := 19) hx hb dL_line_19 (by decide) ?_
    refine W.widen (k := 1) (n := 6) (Nat.le_of_ble_eq_true rfl) (Nat.le_of_ble_eq_true rfl) ?_
    have hS2 := hS.put (k := (0 : Int32).toNatClampNeg) e2 e3 (Or.inr rfl)
    have hne : ∀ q : Nat, Γ q ≠ 0 → H2[q]? = H1[q]? := fun q hq => e3 q fun e => hq (by rw [e]; exact ho)
    exact W.iret hx hb hr (fun t2 ht2 _ => ⟨0, rfl, by rw [LB, ht2]; exact ⟨HT_ext hB1 hne, hB2.same hne⟩, by
      rw [ht2]
      refine ⟨vp_updL f0 (0 : Int32).toNatClampNeg r.toInt64, ?_⟩
      show H2[o0]? = some (vp_cell _ _)
      rw [e1, vp_cell_l, vp_cell_l, arrV_store]
      congr 2
      funext y
      by_cases hy : y = (0 : Int32).toNatClampNeg
      · subst hy
        simp [updV, vp_updL]
      · simp only [updV, vp_updL, hy, if_false], hS2.F ht2⟩) hS2.2.2 dL_line_20 X.2.2.2.2.2.2.2.2

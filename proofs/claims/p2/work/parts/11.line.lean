/-- the one exception of the class -/
def XNN : String := "java/util/NoSuchElementException"
def XUP : List String := ["java/lang/RuntimeException", "java/lang/Exception"]
abbrev XAT : List Cond := vx_at0 RX11 129 XNN XUP
abbrev XNG : List Cond := [Cond.castable XNN XNN, Cond.declares (Bundle.init0 "java/lang/RuntimeException"), Cond.declares (Bundle.init0 "java/lang/Exception"), Cond.declares (Bundle.init0 Bundle.tN)]
theorem xat_ng : ∀ w ∈ XAT.filter (fun w => !goodWord w), w ∈ XNG := by decide +kernel
def XNW (U : State) : Prop := va_Nw (.castable XNN XNN) U ∧ va_Nw (.declares (Bundle.init0 "java/lang/RuntimeException")) U ∧ va_Nw (.declares (Bundle.init0 "java/lang/Exception")) U ∧ va_Nw (.declares (Bundle.init0 Bundle.tN)) U
theorem xat_in : (XAT.filter goodWord).all (fun w => decide (w ∈ lw_tbl)) = true := by decide +kernel
theorem xat_bw : ∀ w ∈ XAT.filter goodWord, w ∈ BW := fun w hw => bw (of_decide_eq_true (List.all_eq_true.mp xat_in w hw)) (List.mem_filter.mp hw).2
theorem xat_ot : (Cond.classLink RX11 127 XNN :: Cond.initialized XNN :: XAT).all vx_ot = true := by decide +kernel
def THR (A : Nat → Prop) (U : State) (H : Heap) : Prop := vx_Zq Bundle.tN "UNASSIGNED_STACK" Bundle.steD A U H ∧ vx_Zq Bundle.tN "SUPPRESSED_SENTINEL" Bundle.listD A U H ∧ XNW U
def PREX (g : GG) (ws : va_W) (sz : Nat) : State → Prop := fun U => PRE g ws sz U ∧ THR (va_A ws sz) U U.heap
theorem PREX.blind {g : GG} {ws : va_W} {sz : Nat} {As : List Value} : FrameBlind (va_Pc As (PREX g ws sz)) := by
  intro a U f mk q
  obtain ⟨q0, q1, q2, q3, q4⟩ := q
  have h := PRE.blind (g := g) (ws := ws) (sz := sz) (As := As) a U f mk ⟨q0, q1⟩
  exact ⟨h.1, h.2, vx_Zq.moved (u := U) (U := U.calling f mk a) (Vm.Alike.refl U.vm) q2, vx_Zq.moved (u := U) (U := U.calling f mk a) (Vm.Alike.refl U.vm) q3, va_Nw.same rfl rfl q4.1, va_Nw.same rfl rfl q4.2.1, va_Nw.same rfl rfl q4.2.2.1, va_Nw.same rfl rfl q4.2.2.2⟩
theorem THR.pre {g : GG} {A : Nat → Prop} {s U : State} {H : Heap} {locs : List Loc} {ws wc : va_W} (hT : THR A s s.heap) (hW : WD g A s H locs ws) (hF : ∀ q, va_A wc H.size q → A q) (hU : U.heap = H) (hWm : s.WarmedH U.vm) : THR (va_A wc H.size) U U.heap := by
  rw [hU]
  exact ⟨((hT.1.moved hWm.alike).kept hW.2.2.2.1).narrow hF, ((hT.2.1.moved hWm.alike).kept hW.2.2.2.1).narrow hF, va_Nw.warmC hWm hT.2.2.1, va_Nw.warmD hWm hT.2.2.2.1, va_Nw.warmD hWm hT.2.2.2.2.1, va_Nw.warmD hWm hT.2.2.2.2.2⟩
theorem dX11_line_0 : decode cX11_line 0 = .ok (.aload_n 0, 1) := by decide +kernel
theorem dX11_line_1 : decode cX11_line 1 = .ok (.iload_n 1, 1) := by decide +kernel
theorem dX11_line_2 : decode cX11_line 2 = .ok (.invokevirtual 101, 3) := by decide +kernel
theorem dX11_line_5 : decode cX11_line 5 = .ok (.astore 4, 2) := by decide +kernel
theorem dX11_line_7 : decode cX11_line 7 = .ok (.aload 4, 2) := by decide +kernel
theorem dX11_line_9 : decode cX11_line 9 = .ok (.ifnull 22, 3) := by decide +kernel
theorem dX11_line_31 : decode cX11_line 31 = .ok (.new 127, 3) := by decide +kernel
theorem dX11_line_34 : decode cX11_line 34 = .ok (.dup, 1) := by decide +kernel
theorem dX11_line_35 : decode cX11_line 35 = .ok (.invokespecial 129, 3) := by decide +kernel
theorem dX11_line_38 : decode cX11_line 38 = .ok (.athrow, 1) := by decide +kernel
theorem dL_line_0 : decode cL_line 0 = .ok (.aload 4, 2) := by decide +kernel
theorem dL_line_2 : decode cL_line 2 = .ok (.iconst 0, 1) := by decide +kernel
theorem dL_line_3 : decode cL_line 3 = .ok (.aload_n 0, 1) := by decide +kernel
theorem dL_line_4 : decode cL_line 4 = .ok (.iload_n 1, 1) := by decide +kernel
theorem dL_line_5 : decode cL_line 5 = .ok (.iload_n 2, 1) := by decide +kernel
theorem dL_line_6 : decode cL_line 6 = .ok (.iload_n 3, 1) := by decide +kernel
theorem dL_line_7 : decode cL_line 7 = .ok (.invokevirtual 7, 3) := by decide +kernel
theorem dL_line_15 : decode cL_line 15 = .ok (.astore 5, 2) := by decide +kernel
theorem dL_line_17 : decode cL_line 17 = .ok (.iconst 1, 1) := by decide +kernel
theorem dL_line_18 : decode cL_line 18 = .ok (.ireturn, 1) := by decide +kernel
theorem m_1157 : (Cond.methodLink "NoonValleyLaw" 7 yX11_line) ∈ BW := bw (tb5 197 (by decide +kernel)) (by decide +kernel)
theorem m_1160 : (Cond.code yX11_line prog_1_method_7_code 5 (Option.some FieldType.int)) ∈ BW := bw (tb5 200 (by decide +kernel)) (by decide +kernel)
theorem m_1158 : (Cond.instanceMethod yX11_line) ∈ BW := bw (tb5 198 (by decide +kernel)) (by decide +kernel)
theorem m_1159 : (Cond.selects "NoonValley" yX11_line yX11_line) ∈ BW := bw (tb5 199 (by decide +kernel)) (by decide +kernel)
theorem vL_7 : LV RL 7 RX11 yX11_line cX11_line 5 (some .int) 3 := ⟨m_1157, m_1158, m_1159, m_1, m_1160, rfl, by decide, by decide, by decide +kernel⟩
theorem m_1161 : (Cond.classLink "NoonValley" 127 "java/util/NoSuchElementException") ∈ BW := bw (tb5 201 (by decide +kernel)) (by decide +kernel)
theorem m_17 : (Cond.initialized "java/util/NoSuchElementException") ∈ BW := bw (tb1 17 (by decide +kernel)) (by decide +kernel)
theorem m_1156 : (Cond.classLink "NoonValleyLaw" 13 "java/util/NoSuchElementException") ∈ BW := bw (tb5 196 (by decide +kernel)) (by decide +kernel)
set_option maxHeartbeats 4000000 in
set_option maxRecDepth 100000 in
/-- line(..) of a fresh object: it throws -/
theorem C_X11_line (l : Launch) (hfl : l.stackTraces = false) (g : GG) (h0 a0 a1 a2 a3 a4 a5 a6 a7 a8 a9 a10 : Nat) (p0 p1 p2 : Int32) (sz : Nat) : vx_Met l yX11_line (WW yX11_line cX11_line 5 (some .int)) (RM 7 1 6) (va_Pc [.ref h0, .int p0, .int p1, .int p2] (PREX g [(h0, .inr (11, [.ref a0, .ref a1, .ref a2, .ref a3, .ref a4, .ref a5, .ref a6, .ref a7, .ref a8, .ref a9, .ref a10, .int 0, .int 0, .int 0]))] sz)) (va_Qi (fun (_ : Int32) (_ : Unit) => False) (fun _ _ => False) (va_A [(h0, .inr (11, [.ref a0, .ref a1, .ref a2, .ref a3, .ref a4, .ref a5, .ref a6, .ref a7, .ref a8, .ref a9, .ref a10, .int 0, .int 0, .int 0]))] sz)) (vx_X (fun _ : Unit => True) (fun E _ _ => E = XNN) (va_A [(h0, .inr (11, [.ref a0, .ref a1, .ref a2, .ref a3, .ref a4, .ref a5, .ref a6, .ref a7, .ref a8, .ref a9, .ref a10, .int 0, .int 0, .int 0]))] sz)) 1 6 (va_A [(h0, .inr (11, [.ref a0, .ref a1, .ref a2, .ref a3, .ref a4, .ref a5, .ref a6, .ref a7, .ref a8, .ref a9, .ref a10, .int 0, .int 0, .int 0]))] sz) := by
  refine vx_ofW (cc := cX11_line) (maxL := 5) (ret := (some .int)) (by decide) rfl ?_
  intro p e s m args below meth c s₁ B hml htab hv
  obtain ⟨rfl, ⟨hsz, hP, hK, hD0, hT⟩, hTh⟩ := hv
  subst hsz
  have hts := atoms_spec (ws := WW yX11_line cX11_line 5 (some .int)) B.pre
  have hl := lv_entry ([.ref h0, .int p0, .int p1, .int p2]) (n := 5) (Nat.le_of_ble_eq_true rfl)
  rw [lg_entry_eq]
  generalize (lg_sl ([.ref h0, .int p0, .int p1, .int p2]) ++ List.replicate (5 - (lg_sl ([.ref h0, .int p0, .int p1, .int p2])).length) Slot.unset).toArray = ls at hl ⊢
  have hl : lv_has ls 5 [(0, .ref h0), (1, .int p0), (2, .int p1), (3, .int p2)] := hl
  have hA : ∀ q : Nat, s.heap.size ≤ q → va_A [(h0, .inr (11, [.ref a0, .ref a1, .ref a2, .ref a3, .ref a4, .ref a5, .ref a6, .ref a7, .ref a8, .ref a9, .ref a10, .int 0, .int 0, .int 0]))] s.heap.size q := fun q h => Or.inr h
  have X : CTX p l m meth c cX11_line 5 s _ RX11 g (va_A [(h0, .inr (11, [.ref a0, .ref a1, .ref a2, .ref a3, .ref a4, .ref a5, .ref a6, .ref a7, .ref a8, .ref a9, .ref a10, .int 0, .int 0, .int 0]))] s.heap.size) := ⟨B.exec, B.bytes, hml, findClass_of_methodNamed B.named, fun w h => hts w (List.mem_cons_of_mem _ h), hK, hT, hA, B.notSynchronized⟩
  have hW : WD g (va_A [(h0, .inr (11, [.ref a0, .ref a1, .ref a2, .ref a3, .ref a4, .ref a5, .ref a6, .ref a7, .ref a8, .ref a9, .ref a10, .int 0, .int 0, .int 0]))] s.heap.size) s s.heap [] [(h0, .inr (11, [.ref a0, .ref a1, .ref a2, .ref a3, .ref a4, .ref a5, .ref a6, .ref a7, .ref a8, .ref a9, .ref a10, .int 0, .int 0, .int 0]))] := ⟨hP, hD0.self, va_S.rf⟩
  generalize va_A [(h0, .inr (11, [.ref a0, .ref a1, .ref a2, .ref a3, .ref a4, .ref a5, .ref a6, .ref a7, .ref a8, .ref a9, .ref a10, .int 0, .int 0, .int 0]))] s.heap.size = A at X hW hA hTh ⊢
  have hx := X.1
  have hb := X.2.1
  refine lv_aload_n (pc := 0) hx hb dX11_line_0 rfl (lv_at hl 0 rfl) ?_
  refine lv_iload_n (pc := 1) hx hb dX11_line_1 rfl (lv_at hl 1 rfl) ?_
  refine c_Vq (pc := 2) (As := [.int p0]) (rest := []) (wr := []) X hW 0 ciX11 rfl (C_X11_valleyAt l g h0 a0 a1 a2 a3 a4 a5 a6 a7 a8 a9 a10 p0) vX11_101 [0] [] rfl rfl rfl rfl rfl rfl hl.1 rfl (Nat.le_of_ble_eq_true rfl) ⟨Nat.le_of_ble_eq_true rfl, Nat.le_of_ble_eq_true rfl⟩ ⟨Nat.le_of_ble_eq_true rfl, Nat.le_of_ble_eq_true rfl⟩ dX11_line_2 (fun r1 u9 H locs hq hW => ?_)
  obtain ⟨rfl, rfl⟩ := hq
  refine lv_astoreN (lv' := [(4, .null), (0, .ref h0), (1, .int p0), (2, .int p1), (3, .int p2)]) (pc := 5) hx hb dX11_line_5 hl (by decide) rfl (fun ls hl => ?_)
  refine lv_aloadN (pc := 7) hx hb dX11_line_7 (lv_at hl 0 rfl) ?_
  refine lv_ifnullN (tgt := 31) (pc := 9) hx hb dX11_line_9 rfl ?_
  refine vx_throw0 (pc := 31) (own := RX11) (cls := XNN) (names := XUP) (ik := 127) (ic := 129) (A := A) hx hb hfl X.2.2.2.1 (by decide +kernel) (by decide +kernel) (X.2.2.2.2.1 _ m_1161) (X.2.2.2.2.1 _ m_17)
    (vx_hat (fun w hw => X.2.2.2.2.1 w (xat_bw w hw)) xat_ng (vx_c (va_Nw.use rfl hTh.2.2.1) (vx_c (va_Nw.use rfl hTh.2.2.2.1) (vx_c (va_Nw.use rfl hTh.2.2.2.2.1) (vx_c (va_Nw.use rfl hTh.2.2.2.2.2) vx_n))))) (fun w hw => List.all_eq_true.mp xat_ot w hw) hTh.1 hTh.2.1 hW.2.2 (hl.1.trans hml.symm) dX11_line_31 dX11_line_34 dX11_line_35 dX11_line_38 (fun x hx9 => (htab x hx9).elim)
    (by decide) (by decide) (Nat.le_of_ble_eq_true rfl) (Nat.le_of_ble_eq_true rfl) X.2.2.2.2.2.2.2.2 (fun t _ hz hq => ⟨(), trivial, rfl, Nat.le_trans hW.2.2.1 hz, fun q h1 h2 => (hq q (Nat.lt_of_lt_of_le h1 hW.2.2.1)).trans (hW.2.2.2.1 q h1 h2)⟩) hW.2.2.2.2 (Nat.le_of_ble_eq_true rfl) (Nat.le_of_ble_eq_true rfl)

theorem m_lline : Cond.codeWith yL_line cL_line 6 (some .int) [(0, 12, 15, 13)] ∈ BW := bw (tb5 195 (by decide +kernel)) (by decide +kernel)
set_option maxHeartbeats 4000000 in
set_option maxRecDepth 100000 in
/-- the law's own line(x, ..): the exception is caught, 1 -/
theorem C_L_line (l : Launch) (hfl : l.stackTraces = false) (g : GG) (h0 a0 a1 a2 a3 a4 a5 a6 a7 a8 a9 a10 o : Nat) (p0 p1 p2 : Int32) (sz : Nat) : Met l yL_line (Cond.codeWith yL_line cL_line 6 (some .int) [(0, 12, 15, 13)] :: BW) (RM 8 1 6) (va_Pc [.ref h0, .int p0, .int p1, .int p2, .ref o] (PREX g [(h0, .inr (11, [.ref a0, .ref a1, .ref a2, .ref a3, .ref a4, .ref a5, .ref a6, .ref a7, .ref a8, .ref a9, .ref a10, .int 0, .int 0, .int 0])), (o, .inl (g.2.1 2, 1, .inr (.inl (fun _ => 0))))] sz)) (va_Qi (fun r u => r = 1 ∧ u = []) (BO g (va_A [(h0, .inr (11, [.ref a0, .ref a1, .ref a2, .ref a3, .ref a4, .ref a5, .ref a6, .ref a7, .ref a8, .ref a9, .ref a10, .int 0, .int 0, .int 0])), (o, .inl (g.2.1 2, 1, .inr (.inl (fun _ => 0))))] sz)) (va_A [(h0, .inr (11, [.ref a0, .ref a1, .ref a2, .ref a3, .ref a4, .ref a5, .ref a6, .ref a7, .ref a8, .ref a9, .ref a10, .int 0, .int 0, .int 0])), (o, .inl (g.2.1 2, 1, .inr (.inl (fun _ => 0))))] sz)) 1 6 (va_A [(h0, .inr (11, [.ref a0, .ref a1, .ref a2, .ref a3, .ref a4, .ref a5, .ref a6, .ref a7, .ref a8, .ref a9, .ref a10, .int 0, .int 0, .int 0])), (o, .inl (g.2.1 2, 1, .inr (.inl (fun _ => 0))))] sz) := by
  refine va_MetW (cc := cL_line) (maxL := 6) (ret := (some .int)) (hh := [(0, 12, 15, 13)]) (by decide) rfl ?_
  intro p e s m args below meth c s₁ B hml hv
  obtain ⟨rfl, ⟨hsz, hP, hK, hD0, hT⟩, hTh⟩ := hv
  subst hsz
  have hts := atoms_spec (ws := Cond.codeWith yL_line cL_line 6 (some .int) [(0, 12, 15, 13)] :: BW) B.pre
  have htab := vx_table (x := yL_line) B (hts _ List.mem_cons_self)
  have hl := lv_entry ([.ref h0, .int p0, .int p1, .int p2, .ref o]) (n := 6) (Nat.le_of_ble_eq_true rfl)
  rw [lg_entry_eq]
  generalize (lg_sl ([.ref h0, .int p0, .int p1, .int p2, .ref o]) ++ List.replicate (6 - (lg_sl ([.ref h0, .int p0, .int p1, .int p2, .ref o])).length) Slot.unset).toArray = ls at hl ⊢
  have hl : lv_has ls 6 [(0, .ref h0), (1, .int p0), (2, .int p1), (3, .int p2), (4, .ref o)] := hl
  have hA : ∀ q : Nat, s.heap.size ≤ q → va_A [(h0, .inr (11, [.ref a0, .ref a1, .ref a2, .ref a3, .ref a4, .ref a5, .ref a6, .ref a7, .ref a8, .ref a9, .ref a10, .int 0, .int 0, .int 0])), (o, .inl (g.2.1 2, 1, .inr (.inl (fun _ => 0))))] s.heap.size q := fun q h => Or.inr h
  have X : CTX p l m meth c cL_line 6 s _ RL g (va_A [(h0, .inr (11, [.ref a0, .ref a1, .ref a2, .ref a3, .ref a4, .ref a5, .ref a6, .ref a7, .ref a8, .ref a9, .ref a10, .int 0, .int 0, .int 0])), (o, .inl (g.2.1 2, 1, .inr (.inl (fun _ => 0))))] s.heap.size) := ⟨B.exec, B.bytes, hml, findClass_of_methodNamed B.named, fun w h => hts w (List.mem_cons_of_mem _ h), hK, hT, hA, B.notSynchronized⟩
  have hW : WD g (va_A [(h0, .inr (11, [.ref a0, .ref a1, .ref a2, .ref a3, .ref a4, .ref a5, .ref a6, .ref a7, .ref a8, .ref a9, .ref a10, .int 0, .int 0, .int 0])), (o, .inl (g.2.1 2, 1, .inr (.inl (fun _ => 0))))] s.heap.size) s s.heap [] [(h0, .inr (11, [.ref a0, .ref a1, .ref a2, .ref a3, .ref a4, .ref a5, .ref a6, .ref a7, .ref a8, .ref a9, .ref a10, .int 0, .int 0, .int 0])), (o, .inl (g.2.1 2, 1, .inr (.inl (fun _ => 0))))] := ⟨hP, hD0.self, va_S.rf⟩
  generalize va_A [(h0, .inr (11, [.ref a0, .ref a1, .ref a2, .ref a3, .ref a4, .ref a5, .ref a6, .ref a7, .ref a8, .ref a9, .ref a10, .int 0, .int 0, .int 0])), (o, .inl (g.2.1 2, 1, .inr (.inl (fun _ => 0))))] s.heap.size = A at X hW hA hTh ⊢
  have hx := X.1
  have hb := X.2.1
  have hr := B.returns
  refine lv_aload (pc := 0) hx hb dL_line_0 (lv_at hl 4 rfl) ?_
  refine lv_iconst (v := 0) (pc := 2) hx hb dL_line_2 (by decide) ?_
  refine lv_aload_n (pc := 3) hx hb dL_line_3 rfl (lv_at hl 0 rfl) ?_
  refine lv_iload_n (pc := 4) hx hb dL_line_4 rfl (lv_at hl 1 rfl) ?_
  refine lv_iload_n (pc := 5) hx hb dL_line_5 rfl (lv_at hl 2 rfl) ?_
  refine lv_iload_n (pc := 6) hx hb dL_line_6 rfl (lv_at hl 3 rfl) ?_
  have hF : ∀ q, va_A [(h0, .inr (11, [.ref a0, .ref a1, .ref a2, .ref a3, .ref a4, .ref a5, .ref a6, .ref a7, .ref a8, .ref a9, .ref a10, .int 0, .int 0, .int 0]))] s.heap.size q → A q := va_free hW.2.1 hW.2.2 X.2.2.2.2.2.2.2.1 [0] rfl
  refine vx_calli (vx_runV (As := [.int p0, .int p1, .int p2]) (rest := [.int 0, .ref o]) ⟨X.1, X.2.1, X.2.2.1, X.2.2.2.1, X.2.2.2.2.1⟩ (C_X11_line l hfl g h0 a0 a1 a2 a3 a4 a5 a6 a7 a8 a9 a10 p0 p1 p2 s.heap.size) (k_cwV X vL_7 ⟨Nat.le_of_ble_eq_true rfl, Nat.le_of_ble_eq_true rfl⟩) ⟨PREX.blind, k_recv X hW 0 ciX11 rfl, fun U hU hWm => ⟨rfl, k_pre X hW [0] rfl rfl U hU hWm, hTh.pre hW hF hU hWm⟩⟩ rfl rfl hl.1 rfl (lv_room (Nat.le_of_ble_eq_true rfl)) dL_line_7 ⟨Nat.le_of_ble_eq_true rfl, Nat.le_of_ble_eq_true rfl⟩) hW.2.2 (fun q _ h => hF q h) hF (fun q _ h => hF q h)
    (fun E ce q9 u t H1 locs1 ht hvm _ hE hz1 hk1 hS hce hcv hcl => ?_) (fun r u t H1 locs1 ht hvm hq => hq.elim)
  subst hE
  refine vx_catch (own := RL) (name := XNN) X.2.2.2.1 [] ⟨0, 12, 15, 13⟩ [] (by rw [htab]; rfl) (fun z hz => absurd hz List.not_mem_nil) (by decide) (by decide) (X.2.2.2.2.1 _ m_1156) (va_Nw.use rfl hTh.2.2.1) hce hcv hcl ?_
  refine lv_astore (lv' := [(5, .ref q9), (0, .ref h0), (1, .int p0), (2, .int p1), (3, .int p2), (4, .ref o)]) (pc := 15) hx hb dL_line_15 hl (by decide) rfl (fun ls hl => ?_)
  refine lv_iconst (v := 1) (pc := 17) hx hb dL_line_17 (by decide) ?_
  refine W.widen (k := 1) (n := 6) (Nat.le_of_ble_eq_true rfl) (Nat.le_of_ble_eq_true rfl) ?_
  exact W.iret hx hb hr (fun t ht _ => ⟨⟨1, [], rfl, ⟨rfl, rfl⟩, fun k q h => by simp at h, ⟨fun i j p q h => by simp at h, fun k q h => by simp at h⟩⟩, hS.F ht⟩) hS.2.2 dL_line_18 X.2.2.2.2.2.2.2.2

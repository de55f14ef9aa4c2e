/-! a frame over a heap that keeps to its tags, in a larger world: calls, fields, new cells -/
def FR (g : GG) (A : Nat → Prop) (s : State) (Γ : Nat → Nat) (H : Heap) (locs : List Loc) : Prop := HT g TS0 Γ H ∧ UQ TS0 Γ ∧ (∀ q : Nat, Γ q ≠ 0 → A q) ∧ va_S A s.heap H locs
theorem HT_ext {g : GG} {ts : TS} {Γ : Nat → Nat} {H H1 : Heap} (hT : HT g ts Γ H) (h : ∀ q : Nat, Γ q ≠ 0 → H1[q]? = H[q]?) : HT g ts Γ H1 :=
  ⟨fun q hq => (hT.1 q hq).kept (h q hq), hT.2.keep (mods := []) (fun q hq => Un1.same (h q hq)) fun _ _ => rfl⟩
/-- a contract by tags that says more of the heap behind it -/
def SMT (l : Launch) (g : GG) (ts : TS) (y : MethodName) (c : ByteArray) (n : Nat) (r : Option FieldType) (sp : SPEC) (P : (Nat → Nat) → List Value → Heap → Value → Prop) : Prop :=
  ∀ (Γ : Nat → Nat) (As : List Value), UQ ts Γ → VR g Γ sp.2.1 As → Met l y (WW y c n r) (RM sp.1 0 0) (va_Pc As (SPRE g ts Γ As sp.2.2.2.2.2)) (fun a st o t => SQ g ts Γ sp As a st o t ∧ ∀ v : Value, o = .returned (some v) → P Γ As t.heap v) 0 0 (fun q => Γ q ≠ 0)
theorem SMT_emb {l : Launch} {g : GG} {ts : TS} {y : MethodName} {cc : ByteArray} {nL : Nat} {r : Option FieldType} {sp : SPEC} {P : (Nat → Nat) → List Value → Heap → Value → Prop}
    (h : ∀ (Γ : Nat → Nat) (As : List Value), UQ ts Γ → VR g Γ sp.2.1 As → ∀ U : State, HT g ts Γ U.heap → PFT g ts Γ As sp.2.2.2.2.2 U.heap → ∃ (ws : va_W) (Qs : Array Value → State → Outcome → State → Prop), Met l y (WW y cc nL r) (RM sp.1 0 0) (va_Pc As (PRE g ws U.heap.size)) Qs 0 0 (va_A ws U.heap.size) ∧ va_P g.1 CLS ws U.heap ∧ va_D (fun q => Γ q ≠ 0) ws ∧ ∀ (a : Array Value) (o : Outcome) (t : State), Qs a U o t → t.heap.size = U.heap.size → SQ g ts Γ sp As a U o t ∧ ∀ v : Value, o = .returned (some v) → P Γ As t.heap v) : SMT l g ts y cc nL r sp P := by
  intro Γ As hU hV p e h1 h2 h3 s m args below h4 h5 h6 h7
  obtain ⟨ea, hT, hK, hTB, hPF⟩ := h6
  obtain ⟨ws, Qs, hM, hP, hD, hQ⟩ := h Γ As hU hV s hT hPF
  have hA : ∀ q, va_A ws s.heap.size q → AA Γ s.heap.size q := fun q hq => by
    rcases hq with ⟨k, e, hq⟩ | hq
    · exact Or.inl (hD.2 k _ hq)
    · exact Or.inr hq
  obtain ⟨n, o, a1, a2, a3, a4, L, a5, a6⟩ := hM p e h1 h2 h3 s m args below h4 h5 ⟨ea, rfl, hP, hK, hD.weaken (fun _ _ _ _ => trivial), hTB.narrow hA⟩ h7
  refine ⟨n, o, a1, a2, a3, hQ _ _ _ a4 (FE_size a5), _, FE_filt a5, fun q hq => ?_⟩
  obtain ⟨q1, q2⟩ := List.mem_filter.mp hq
  have q2 := blt_lt q2
  rcases a6 q q1 with ⟨k, e, hk⟩ | hk
  · exact hD.2 k _ hk
  · omega
section
variable {p : Program} {l : Launch} {e : Env} {R : Room} {s : State} {m : MethodId} {args : Array Value} {below : List Frame} {meth : Method} {c : Code} {H : Heap} {locs : List Loc} {cells slots : Nat} {Q : State → Prop}
variable {cc : ByteArray} {pc nL : Nat} {ls : Array Slot} {rest stk : List Value} {own : String} {g : GG} {A : Nat → Prop} {Γ : Nat → Nat} {q : Nat}
theorem FR.ctx (X : CTX p l m meth c cc nL s args own g A) (hF : FR g A s Γ H locs) : CTX p l m meth c cc nL s args own g (AA Γ s.heap.size) :=
  ⟨X.1, X.2.1, X.2.2.1, X.2.2.2.1, X.2.2.2.2.1, X.2.2.2.2.2.1, X.2.2.2.2.2.2.1.narrow (fun q h => h.elim (hF.2.2.1 q) (X.2.2.2.2.2.2.2.1 q)), fun _ h => Or.inr h, X.2.2.2.2.2.2.2.2⟩
theorem f_pre (X : CTX p l m meth c cc nL s args own g A) (hF : FR g A s Γ H locs) (U : State) (hU : U.heap = H) (hW : s.WarmedH U.vm) {As : List Value} {pf : List (Nat × AV)} (hp : pf = []) : SPRE g TS0 Γ As pf U := by
  subst hp
  refine ⟨by rw [hU]; exact hF.1, X.2.2.2.2.2.1.warm hW, ?_, fun q h => (List.not_mem_nil h).elim⟩
  rw [hU]
  exact ((X.2.2.2.2.2.2.1.moved hW.alike).kept hF.2.2.2.2.1).narrow fun q h => h.elim (hF.2.2.1 q) (fun h => X.2.2.2.2.2.2.2.1 q (Nat.le_trans hF.2.2.2.1 h))
theorem f_ret {sp : SPEC} {As : List Value} {a : Array Value} {st0 : List Value} {P : Value → Heap → Prop} (hr : va_Run p l e R s m args below meth c H locs cells slots 0 0 (F0 m pc ls st0) rest (fun st o t => SQ g TS0 Γ sp As a st o t ∧ ∀ v : Value, o = .returned (some v) → P v t.heap) (fun q => Γ q ≠ 0)) (hF : FR g A s Γ H locs)
    (kk : ∀ (v : Option Value) (H1 : Heap) (locs1 : List Loc), RO g Γ sp As v → (∀ w, v = some w → P w H1) → FR g A s Γ H1 locs1 → H1.size = H.size → (∀ q : Nat, Γ q = 0 → H1[q]? = H[q]?) → Un g TS0 Γ sp.2.2.2.2.1 H H1 → W p l e R s m args below meth c H1 locs1 cells slots Q (F0 m (pc + 3) ls (v.toList ++ rest))) : W p l e R s m args below meth c H locs cells slots Q (F0 m pc ls st0) := by
  intro T hT X
  obtain ⟨v, st₀, t, T', L, h0, X', hL, e1, e2, ⟨⟨v2, hv, hro, hh, hz, hk, hu⟩, hP⟩, st⟩ := hr T hT X
  cases hv
  rw [h0] at hz hk hu
  rw [← e1] at hh hz hk hu hP
  have hS : va_S A s.heap T'.heap (locs ++ L) := by
    refine ⟨by rw [hz]; exact hF.2.2.2.1, fun q h1 h2 => ?_, fun l hl => ?_⟩
    · have h3 : Γ q = 0 := Classical.byContradiction fun z => h2 (hF.2.2.1 q z)
      exact (hk q h3).trans (hF.2.2.2.2.1 q h1 h2)
    · rcases List.mem_append.mp hl with h | h
      · exact hF.2.2.2.2.2 l h
      · exact hF.2.2.1 _ (hL l h)
  obtain ⟨t2, a1, b1⟩ := kk v T'.heap (locs ++ L) hro (fun w hw => hP w (by rw [hw])) ⟨hh, hF.2.1, hF.2.2.1, hS⟩ hz hk hu T' rfl X'
  exact ⟨t2, st t2 a1, b1⟩
theorem f_recv (X : CTX p l m meth c cc nL s args own g A) (hF : FR g A s Γ H locs) {b ci : Nat} {fs : List AV} (hb : Γ b ≠ 0) (ht : TS0.1 (Γ b) = .inl (ci, fs)) {C : String} {T : u_T} {N : Nat} (hci : CLS[ci]? = some (C, T, N)) : ∃ cell : Cell, H[b]? = some cell ∧ cell.vm.isStatics = false ∧ s.vm.findClass C = some cell.cls := by
  obtain ⟨ws, h1, -⟩ := h_obj hF.1 hb ht
  have hP : va_P g.1 CLS [(b, .inr (ci, ws))] H := fun j r hr => by
    cases j with
    | zero => cases hr; exact h1
    | succ j => cases hr
  exact va_recv (q0 := 0) X.2.2.2.2.2.1.1 hP hci rfl
/-- the call of a method of an object, its contract by tags -/
theorem f_callT (X : CTX p l m meth c cc nL s args own g A) (hF : FR g A s Γ H locs) {idx na maxL b ci N : Nat} {sp : SPEC} {P : (Nat → Nat) → List Value → Heap → Value → Prop} {y : MethodName} {cb : ByteArray} {r : Option FieldType} {C : String} {T : u_T} {As rs : List Value} {fs : List AV} (hM : SMT l g TS0 y cb maxL r sp P) (hl : LV own idx C y cb maxL r na) (hci : CLS[ci]? = some (C, T, N)) (hb : Γ b ≠ 0) (ht : TS0.1 (Γ b) = .inl (ci, fs)) (hV : VR g Γ sp.2.1 (.ref b :: As)) (hpf : sp.2.2.2.2.2 = []) (hlen : As.length = na) (hls : ls.size = nL) (hstk : stk = As.reverse ++ .ref b :: rs) (hroom : (rs.map fun v => v.category).sum ≤ 8) (hRm : sp.1 + 1 ≤ R.frames ∧ 8 + (maxL + 11) + 40 * sp.1 ≤ R.locals) (hc : cells ≤ R.cells ∧ slots ≤ R.slots) (hdg : decode cc pc = .ok (.invokevirtual idx, 3))
    (kk : ∀ (v : Option Value) (H1 : Heap) (locs1 : List Loc), RO g Γ sp (.ref b :: As) v → (∀ w, v = some w → P Γ (.ref b :: As) H1 w) → FR g A s Γ H1 locs1 → H1.size = H.size → (∀ q : Nat, Γ q = 0 → H1[q]? = H[q]?) → Un g TS0 Γ sp.2.2.2.2.1 H H1 → W p l e R s m args below meth c H1 locs1 cells slots Q (F0 m (pc + 3) ls (v.toList ++ rs))) : W p l e R s m args below meth c H locs cells slots Q (F0 m pc ls stk) := by
  subst hstk
  exact f_ret (P := fun w H => P Γ (.ref b :: As) H w) (va_runV (e := e) (below := below) (locs := locs) (rest := rs) ⟨X.1, X.2.1, X.2.2.1, X.2.2.2.1, X.2.2.2.2.1⟩ (hM Γ _ hF.2.1 hV) (k_cwV X hl hRm) ⟨SPRE.blind, f_recv X hF hb ht hci, fun U hU hWm => ⟨rfl, f_pre X hF U hU hWm hpf⟩⟩ rfl hlen hls rfl (lv_room hroom) hdg hc) hF kk
theorem SM.T {l : Launch} {g : GG} {ts : TS} {y : MethodName} {cc : ByteArray} {nL : Nat} {r : Option FieldType} {sp : SPEC} (hM : SM l g ts y cc nL r sp) : SMT l g ts y cc nL r sp (fun _ _ _ _ => True) := by
  intro Γ As hU hV p e h1 h2 h3 s m args below h4 h5 h6 h7
  obtain ⟨n, o, a1, a2, a3, a4, a5⟩ := hM Γ As hU hV p e h1 h2 h3 s m args below h4 h5 h6 h7
  exact ⟨n, o, a1, a2, a3, ⟨a4, fun _ _ => trivial⟩, a5⟩
theorem f_callV (X : CTX p l m meth c cc nL s args own g A) (hF : FR g A s Γ H locs) {idx na maxL b ci N : Nat} {sp : SPEC} {y : MethodName} {cb : ByteArray} {r : Option FieldType} {C : String} {T : u_T} {As rs : List Value} {fs : List AV} (hM : SM l g TS0 y cb maxL r sp) (hl : LV own idx C y cb maxL r na) (hci : CLS[ci]? = some (C, T, N)) (hb : Γ b ≠ 0) (ht : TS0.1 (Γ b) = .inl (ci, fs)) (hV : VR g Γ sp.2.1 (.ref b :: As)) (hpf : sp.2.2.2.2.2 = []) (hlen : As.length = na) (hls : ls.size = nL) (hstk : stk = As.reverse ++ .ref b :: rs) (hroom : (rs.map fun v => v.category).sum ≤ 8) (hRm : sp.1 + 1 ≤ R.frames ∧ 8 + (maxL + 11) + 40 * sp.1 ≤ R.locals) (hc : cells ≤ R.cells ∧ slots ≤ R.slots) (hdg : decode cc pc = .ok (.invokevirtual idx, 3))
    (kk : ∀ (v : Option Value) (H1 : Heap) (locs1 : List Loc), RO g Γ sp (.ref b :: As) v → FR g A s Γ H1 locs1 → H1.size = H.size → (∀ q : Nat, Γ q = 0 → H1[q]? = H[q]?) → Un g TS0 Γ sp.2.2.2.2.1 H H1 → W p l e R s m args below meth c H1 locs1 cells slots Q (F0 m (pc + 3) ls (v.toList ++ rs))) : W p l e R s m args below meth c H locs cells slots Q (F0 m pc ls stk) := by
  exact f_callT X hF hM.T hl hci hb ht hV hpf hlen hls hstk hroom hRm hc hdg (fun v H1 locs1 h1 _ h3 h4 h5 h6 => kk v H1 locs1 h1 h3 h4 h5 h6)
theorem f_get (X : CTX p l m meth c cc nL s args own g A) (hF : FR g A s Γ H locs) {idx : Nat} {f : Bool × Nat × Nat × Bool × Nat} (hf : FOK own idx f) (hq : Γ q ≠ 0) {fs : List AV} {a : AV} (ht : TS0.1 (Γ q) = .inl (f.2.1, fs)) (hk : fs[f.2.2.1]? = some a) (hdg : decode cc pc = .ok (.getfield idx, 3))
    (kk : ∀ v, avi g Γ a v → FE g q f.2.1 f.2.2.1 H v → W p l e R s m args below meth c H locs cells slots Q (F0 m (pc + 3) ls (v :: rest))) : W p l e R s m args below meth c H locs cells slots Q (F0 m pc ls (.ref q :: rest)) :=
  h_get (hF.ctx X) hF.1 hf hq ht hk hdg kk
/-- a field of a cell by its picture alone -/
theorem w_get (X : CTX p l m meth c cc nL s args own g A) {idx : Nat} {f : Bool × Nat × Nat × Bool × Nat} (hf : FOK own idx f) {v : Value} (hv : FE g q f.2.1 f.2.2.1 H v) (hdg : decode cc pc = .ok (.getfield idx, 3))
    (kk : W p l e R s m args below meth c H locs cells slots Q (F0 m (pc + 3) ls (v :: rest))) : W p l e R s m args below meth c H locs cells slots Q (F0 m pc ls (.ref q :: rest)) := by
  obtain ⟨n, ci, k, w, tc⟩ := f
  obtain ⟨C, T, N, ty, ref, host, hC, hN, hr, hl, -⟩ := hf
  obtain ⟨vs, r, h1, h2, h3, h4⟩ := hv
  have hP : va_P g.1 CLS [(q, .inr (ci, vs))] H := fun j r hr => by
    cases j with
    | zero => cases hr; exact h1
    | succ j => cases hr
  cases n with
  | true => exact va_getN X.1 X.2.1 X.2.2.2.2.1 hC.2.1 X.2.2.2.1 X.2.2.2.2.2.1.1 hP 0 rfl hC.1 k hN (va_Nw.use rfl (X.2.2.2.2.2.1.2.1 _ hl)) (fun _ h => by rw [← hr]; exact h) h4 hdg kk
  | false => exact va_get X.1 X.2.1 X.2.2.2.2.1 hC.2.1 X.2.2.2.1 X.2.2.2.2.2.1.1 hP 0 rfl hC.1 k hN (X.2.2.2.2.1 _ hl) (fun _ h => by rw [← hr]; exact h) h4 hdg kk
/-- a field's writing, of a cell by its picture alone -/
theorem w_put (X : CTX p l m meth c cc nL s args own g A) {idx : Nat} {f : Bool × Nat × Nat × Bool × Nat} (hf : FOK own idx f) {vs : List Value} (h1 : va_at g.1 CLS (q, .inr (f.2.1, vs)) H) (hkl : f.2.2.1 < vs.length) (hw : f.2.2.2.1 = true) {b : AV} {v : Value} (hv : avi g Γ b v) (htc : tcok f.2.2.2.2 b = true) (hdg : decode cc pc = .ok (.putfield idx, 3))
    (kk : ∀ (H1 : Heap) (j : Nat), H1.size = H.size → (∀ x : Nat, x ≠ q → H1[x]? = H[x]?) → va_at g.1 CLS (q, .inr (f.2.1, vs.set f.2.2.1 v)) H1 → (∀ (k2 : Nat) (v2 : Value), k2 ≠ f.2.2.1 → FE g q f.2.1 k2 H v2 → FE g q f.2.1 k2 H1 v2) → FE g q f.2.1 f.2.2.1 H1 v → W p l e R s m args below meth c H1 (locs ++ [⟨q, j⟩]) cells slots Q (F0 m (pc + 3) ls rest)) : W p l e R s m args below meth c H locs cells slots Q (F0 m pc ls (v :: .ref q :: rest)) := by
  obtain ⟨n, ci, k, w, tc⟩ := f
  obtain ⟨C, T, N, ty, ref, host, hC, hN, hr, hl, hfin, hTC⟩ := hf
  dsimp only at hN hr hl hfin hTC hw htc h1 hkl
  obtain ⟨hn, hfit⟩ := nf_ok hTC htc hv
  have hap := va_apart (own := own) X.2.2.2.2.1 hC.2.1 ty hC.2.2.1 hC.2.2.2 X.2.2.2.2.2.1.1 hC.1
  obtain ⟨r, hr1, cell, q1, q2, q3, q4⟩ := h1
  have hre : r = (C, T, N) := Option.some.inj (hr1.symm.trans hC.1)
  subst hre
  obtain ⟨hS, hfc, kC, hkC, hkind⟩ := X.2.2.2.2.2.1.1.1 ci _ hC.1
  obtain ⟨cf, kf, fi, fd, hi, hsl⟩ := hS k hN
  have hlay := X.2.2.2.2.1 _ (hC.2.1 _ (u_in_lay hN))
  unfold u_lay at hlay
  rw [if_neg (by rw [hfin hw]; decide)] at hlay
  have hst := (u_facts hfc hkC (u_lays X.2.2.2.2.1 hC.2.1 hN) hi).1
  have h6 := u_store hfc hkC hkind hlay hi (hC.2.2.1 k hN) hn hfit
  have hsm : ∀ x, s.fieldFound? (T k).1 (T k).2.1 (T k).2.2.1 = some x → s.fieldFound? ref (T k).2.1 (T k).2.2.1 = some x := fun _ h => by rw [← hr]; exact h
  have fin : ∀ H' : Heap, H'[q]? = some (cell.setSlot fd.slot v) → H'.size = H.size → (∀ x, x ≠ q → H'[x]? = H[x]?) → W p l e R s m args below meth c H' (locs ++ [⟨q, fd.slot⟩]) cells slots Q (F0 m (pc + 3) ls rest) := by
    intro H' e1 e2 e3
    rw [hsl] at e1
    have hat : va_at g.1 CLS (q, .inr (ci, vs.set k v)) H' := ⟨_, hC.1, t_OB.to (V := updV (vp_V vs) k v) ⟨_, e1, q2, q3, t_set q4 hap hN v⟩ (fun j _ => vp_updV_set hkl v j)⟩
    refine kk H' _ e2 e3 hat ?_ ⟨_, _, hat, hC.1, hN, List.getElem?_set_self hkl⟩
    intro k2 v2 hne hF
    obtain ⟨us, r2, ⟨r3, g1, cell2, g2, g3, g4, g5⟩, g6, g7, g8⟩ := hF
    have er2 : r2 = (C, T, N) := Option.some.inj (g6.symm.trans hC.1)
    subst er2
    have er3 : r3 = (C, T, N) := Option.some.inj (g1.symm.trans hC.1)
    subst er3
    have ec : cell2 = cell := Option.some.inj (g2.symm.trans q1)
    subst ec
    have ev : vp_V us k2 = vp_V vs k2 := Option.some.inj ((g5 k2 g7).symm.trans (q4 k2 g7))
    by_cases hl2 : k2 < vs.length
    · refine ⟨vs.set k v, _, hat, hC.1, g7, ?_⟩
      rw [List.getElem?_set_ne (Ne.symm hne), List.getElem?_eq_getElem hl2]
      rw [vp_V, vp_V, List.getD_eq_getElem?_getD, List.getD_eq_getElem?_getD, g8, List.getElem?_eq_getElem hl2] at ev
      exact congrArg some ev.symm
    · refine ⟨us.set k v, _, ⟨_, hC.1, t_OB.to (V := updV (vp_V us) k v) ⟨_, e1, q2, q3, t_set g5 hap hN v⟩ (fun j hj => ?_)⟩, hC.1, g7, ?_⟩
      · by_cases hj2 : k < us.length
        · exact vp_updV_set hj2 v j
        · exact absurd (Nat.lt_of_lt_of_le (List.getElem?_eq_some_iff.mp g8).1 (Nat.le_of_not_lt hj2)) (by omega)
      · rw [List.getElem?_set_ne (Ne.symm hne)]; exact g8
  cases n with
  | true => exact va_WputK X.1 X.2.1 (f := fd) X.2.2.2.1 (va_Nw.use rfl (X.2.2.2.2.2.1.2.1 _ hl)) (hsm _ hi) hst (by rw [q2]; exact h6) q1 q3 (by rw [hsl]; exact k2_hasslot (q4 k hN)) rfl rfl hdg fin
  | false => exact W.putK X.1 X.2.1 (f := fd) ⟨X.2.2.2.1, X.2.2.2.2.1 _ hl, ⟨_, _, _, hsm _ hi⟩, hst⟩ (by rw [q2]; exact h6) q1 q3 (by rw [hsl]; exact k2_hasslot (q4 k hN)) rfl rfl hdg fin
theorem f_put (X : CTX p l m meth c cc nL s args own g A) (hF : FR g A s Γ H locs) {idx : Nat} {f : Bool × Nat × Nat × Bool × Nat} (hf : FOK own idx f) (hq : Γ q ≠ 0) {fs : List AV} {a b : AV} {v : Value} (ht : TS0.1 (Γ q) = .inl (f.2.1, fs)) (hk : fs[f.2.2.1]? = some a) (hw : f.2.2.2.1 = true) (hv : avi g Γ b v) (hb : avle b a = true) (htc : tcok f.2.2.2.2 b = true) (hm : mdg [(Γ q, f.2.2.1)] (Γ q) f.2.2.1 = true) (hdg : decode cc pc = .ok (.putfield idx, 3))
    (kk : ∀ (H1 : Heap) (locs1 : List Loc), FR g A s Γ H1 locs1 → H1.size = H.size → (∀ x : Nat, x ≠ q → H1[x]? = H[x]?) → Un g TS0 Γ [(Γ q, f.2.2.1)] H H1 → FE g q f.2.1 f.2.2.1 H1 v → W p l e R s m args below meth c H1 locs1 cells slots Q (F0 m (pc + 3) ls rest)) : W p l e R s m args below meth c H locs cells slots Q (F0 m pc ls (v :: .ref q :: rest)) := by
  obtain ⟨vs, h1, h2⟩ := h_obj hF.1 hq ht
  refine w_put X hf h1 (by rw [h2.len]; exact (List.getElem?_eq_some_iff.mp hk).1) hw hv htc hdg fun H1 j e2 e3 hat hFE hE => ?_
  have hun : Un g TS0 Γ [(Γ q, f.2.2.1)] H H1 := fun x hx => by
    by_cases ex : x = q
    · subst ex
      unfold Un1
      rw [ht]
      exact fun k2 v2 hk2 hF2 => hFE k2 v2 (fun z => by rw [z, md_self] at hk2; cases hk2) hF2
    · exact Un1.same (e3 x ex)
  refine kk H1 _ ⟨⟨fun x hx => ?_, hF.1.2.keep hun (mdg_ok hm).2⟩, hF.2.1, hF.2.2.1, hF.2.2.2.put e2 e3 (hF.2.2.1 q hq)⟩ e2 e3 hun hE
  by_cases ex : x = q
  · subst ex
    unfold cok
    rw [ht]
    exact ⟨_, hat, h2.put (avle_ok hb hv) hk⟩
  · exact (hF.1.1 x hx).kept (e3 x ex)
/-- a reference into an array of references -/
theorem f_aast (X : CTX p l m meth c cc nL s args own g A) (hF : FR g A s Γ H locs) (hq : Γ q ≠ 0) {k n t ci v : Nat} {C : String} {T : u_T} {N : Nat} {vs : List Value} (hk : k = 4 ∨ k = 5) (hty : (TYS g)[k]? = some (g.2.1 k, .object C)) (ht : TS0.1 (Γ q) = .inr (k, n, vn t)) (hm : ∀ r ∈ GD, md [(Γ q, 0)] r.1 r.2 = false) (hv : va_at g.1 CLS (v, .inr (ci, vs)) H) (hci : CLS[ci]? = some (C, T, N)) (hvt : Γ v = t ∧ t ≠ 0) {i : Int32} (hi : 0 ≤ i.toInt) (hin : i.toInt < (n : Int)) (hdg : decode cc pc = .ok (.aastore, 1))
    (kk : ∀ (H1 : Heap) (locs1 : List Loc), FR g A s Γ H1 locs1 → H1.size = H.size → (∀ x : Nat, x ≠ q → H1[x]? = H[x]?) → Un g TS0 Γ [(Γ q, 0)] H H1 → W p l e R s m args below meth c H1 locs1 cells slots Q (F0 m (pc + 1) ls rest)) : W p l e R s m args below meth c H locs cells slots Q (F0 m pc ls (.ref v :: .int i :: .ref q :: rest)) := by
  obtain ⟨⟨n', f⟩, hP, rfl, hA⟩ := h_at hF.1 hq ht
  obtain ⟨hI, hlt⟩ := vpin_of (n := n') (a := (0, 0, (n' : Int) - 1)) hi (by show i.toInt ≤ (n' : Int) - 1; omega) (Int.le_refl _) (by show (n' : Int) - 1 < _; omega)
  rcases f with f | f | f | f | f
  · have hA := hA.1; omega
  · have hA : k = 2 := hA; omega
  · exact hA.elim
  · exact hA.elim
  · obtain ⟨r', hr', cellV, g1, g2, g3, -⟩ := hv
    have hK := X.2.2.2.2.2.1.1
    have hcls := (hK.1 ci _ hci).2
    have hre : r' = (C, T, N) := Option.some.inj (hr'.symm.trans hci)
    subst hre
    obtain ⟨kA, comp, k1, k2, k3, -⟩ := (hK.2 k _ hty).2
    have hcomp : comp = g.1.1 ci := Option.some.inj (k3.symm.trans hcls.1)
    subst hcomp
    obtain ⟨kC, hkC, -⟩ := hcls.2
    have hcell : H[q]? = some (vp_cell (g.2.1 k) (n', .inr (.inr (.inr (.inr f))))) := hP 0 _ rfl
    refine W.aast X.1 X.2.1 hcell (fun q h => by cases h) (fun h => by cases h) k1 k2 rfl hkC ⟨fun h => hI (Or.inl h), by show _ < (arrV _ _ _).slots.size; rw [arrV_size]; exact hlt⟩ g1 (fun q h => by rw [g3] at h; cases h) (by rw [g2]; exact hkC) (by rw [g2]; exact va_assign hcls) rfl rfl hdg fun H1 e1 z oq => ?_
    have hun : Un g TS0 Γ [(Γ q, 0)] H H1 := fun x hx => by
      by_cases ex : x = q
      · subst ex
        unfold Un1
        rw [ht]
        intro h
        rw [md_self] at h; cases h
      · exact Un1.same (oq x ex)
    refine kk H1 _ ⟨⟨fun x hx => ?_, hF.1.2.keep hun hm⟩, hF.2.1, hF.2.2.1, hF.2.2.2.put z oq (hF.2.2.1 q hq)⟩ z oq hun
    by_cases ex : x = q
    · subst ex
      unfold cok
      rw [ht]
      refine ⟨(n', .inr (.inr (.inr (.inr (va_up f i.toNatClampNeg (some v)))))), ?_, rfl, hA.1, fun j hj => ?_⟩
      · show H1[x]? = some (vp_cell _ _)
        rw [e1]
        rw [vp_cell_q, vp_cell_q, arrV_store]
        congr 2
        funext y
        by_cases hy : y = i.toNatClampNeg
        · subst hy
          simp [updV, va_up, va_rf]
        · simp [updV, va_up, hy]
      · by_cases hy : j = i.toNatClampNeg
        · subst hy
          simp only [va_up, if_true]
          exact Or.inl ⟨Or.inr rfl, hvt.1, by rw [hvt.1]; exact hvt.2⟩
        · simp only [va_up, hy, if_false]
          exact hA.2 j hj
    · exact (hF.1.1 x hx).kept (oq x ex)
end

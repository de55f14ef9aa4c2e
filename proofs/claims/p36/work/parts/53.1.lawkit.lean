/-! the law: what stands at the head of its loop, its reads, its calls -/
theorem lg_self (x : Int64) : lg_cmp x x = 0 := by
  have h : ¬ x < x := by rw [fa_lt64]; omega
  simp [lg_cmp, h]
abbrev AL (s : State) : Nat → Prop := fun q => s.heap.size ≤ q
def LWS (g : GG) (x0 m0 o0 : Nat) (s : State) (Γ : Nat → Nat) (H : Heap) (locs : List Loc) : Prop := FR g (AL s) s Γ H locs ∧ LF g x0 m0 Γ H ∧ Γ o0 = 0 ∧ s.heap.size ≤ o0 ∧ ORW g o0 H
abbrev LO (b x0 m0 o0 i : Nat) : List (Nat × Value) := [(0, .ref b), (1, .ref x0), (2, .ref m0), (3, .ref o0), (4, .int (nI i))]
section
variable {p : Program} {l : Launch} {e : Env} {s : State} {m : MethodId} {below : List Frame} {meth : Method} {c : Code} {H : Heap} {locs : List Loc} {cells slots : Nat} {Q : State → Prop}
variable {pc : Nat} {ls : Array Slot} {rest stk st0 : List Value} {g : GG} {Γ : Nat → Nat} {x0 m0 o0 b L i : Nat} {xs : Nat → Int32} {args : Array Value}
theorem ORW.kept {H1 : Heap} (h : ORW g o0 H) (he : H1[o0]? = H[o0]?) : ORW g o0 H1 := by
  obtain ⟨f, hf⟩ := h
  exact ⟨f, hf.kept he⟩
theorem ORW.lt (h : ORW g o0 H) : o0 < H.size := by
  obtain ⟨f, hf⟩ := h
  exact hf.lt
theorem LWS.keep {H1 : Heap} {locs1 : List Loc} {mods : List (Nat × Nat)} (h : LWS g x0 m0 o0 s Γ H locs) (hF : FR g (AL s) s Γ H1 locs1) (hk : ∀ q : Nat, Γ q = 0 → H1[q]? = H[q]?) (hu : Un g TS0 Γ mods H H1) (hm : lwm mods = true) : LWS g x0 m0 o0 s Γ H1 locs1 :=
  ⟨hF, h.2.1.keep hu hm, h.2.2.1, h.2.2.2.1, h.2.2.2.2.kept (hk o0 h.2.2.1)⟩
/-- the script's int n of the call -/
theorem law_rd (X : CTX p l m meth c cL_law 7 s args RL g (AL s)) (hX : va_X b L xs s s.heap) (hbl : b < s.heap.size) (hS : LWS g x0 m0 o0 s Γ H locs) (hl : lv_has ls 7 (LO b x0 m0 o0 i)) (n : Nat) {k : Int} (hk : Int32.ofInt k = nI n) (hn : n ≤ 5) (hi : i + 6 ≤ L) (hL : L ≤ 3072)
    (d0 : decode cL_law pc = .ok (.aload_n 0, 1)) (d1 : decode cL_law (pc + 1) = .ok (.iload 4, 2)) (d3 : decode cL_law (pc + 3) = .ok (.iconst k, 1)) (d4 : decode cL_law (pc + 4) = .ok (.iadd, 1)) (d5 : decode cL_law (pc + 5) = .ok (.iaload, 1))
    (kk : W p l e room_1 s m args below meth c H locs cells slots Q (F0 m (pc + 6) ls (.int (xs (i + n)) :: rest))) : W p l e room_1 s m args below meth c H locs cells slots Q (F0 m pc ls rest) := by
  have hx := X.1
  have hb := X.2.1
  have hbA : ¬ (AL s) b := Nat.not_le.mpr hbl
  refine lv_aload_n (pc := pc) hx hb d0 rfl (lv_at hl 0 rfl) ?_
  refine lv_iload (pc := pc + 1) hx hb d1 (lv_at hl 4 rfl) ?_
  refine lv_iconst (v := nI n) (pc := pc + 3) hx hb d3 hk ?_
  refine lv_iadd (pc := pc + 4) hx hb d4 ?_
  rw [nI_add]
  refine va_sld (pc := pc + 5) hx hb hX hbl hbA hS.1.2.2.2 (vp_in_nI (n := i + n) (by omega) (by omega)) d5 ?_
  rw [nI_clamp (by omega)]
  exact kk
/-- a call of one of the two, what it answers let go -/
theorem law_call (X : CTX p l m meth c cL_law 7 s args RL g (AL s)) (hS : LWS g x0 m0 o0 s Γ H locs) {idx na maxL d ci N t : Nat} {sp : SPEC} {y : MethodName} {cb : ByteArray} {r : Option FieldType} {C : String} {T : u_T} {As rs : List Value} {fs : List AV} (hM : SM l g TS0 y cb maxL r sp) (hl : LV RL idx C y cb maxL r na) (hci : CLS[ci]? = some (C, T, N)) (hd : Γ d = t) (h0 : t ≠ 0) (ht : TS0.1 t = .inl (ci, fs)) (hV : VR g Γ sp.2.1 (.ref d :: As)) (hpf : sp.2.2.2.2.2 = []) (hlen : As.length = na) (hls : ls.size = 7) (hstk : stk = As.reverse ++ .ref d :: rs) (hroom : (rs.map fun v => v.category).sum ≤ 8) (hRm : sp.1 + 1 ≤ 2048 ∧ 8 + (maxL + 11) + 40 * sp.1 ≤ 84000) (hc : cells ≤ 601024 ∧ slots ≤ 7293034) (hdg : decode cL_law pc = .ok (.invokevirtual idx, 3)) (hdp : decode cL_law (pc + 3) = .ok (.pop, 1)) (hm : lwm sp.2.2.2.2.1 = true) (hr : Nat.beq sp.2.2.1.1 0 = true)
    (kk : ∀ (H1 : Heap) (locs1 : List Loc), LWS g x0 m0 o0 s Γ H1 locs1 → W p l e room_1 s m args below meth c H1 locs1 cells slots Q (F0 m (pc + 4) ls rs)) : W p l e room_1 s m args below meth c H locs cells slots Q (F0 m pc ls stk) := by
  refine f_callV (ci := ci) X hS.1 hM hl hci (by rw [hd]; exact h0) ((congrArg TS0.1 hd).trans ht) hV hpf hlen hls hstk hroom hRm hc hdg fun w H1 locs1 hro hF1 hz1 hk1 hun => ?_
  obtain ⟨w8, rfl, hw8, -⟩ := RO_some (Bool.eq_false_iff.mpr fun e7 => absurd ((Nat.eq_of_beq_eq_true e7).symm.trans (Nat.eq_of_beq_eq_true hr)) (by decide)) hro
  obtain ⟨x, rfl, -⟩ := avi_int hr hw8
  exact lv_pop (pc := pc + 3) X.1 X.2.1 hdp rfl (kk H1 locs1 (hS.keep hF1 hk1 hun hm))
/-- the call of one that makes cells -/
theorem law_gret {a : Array Value} {mc ms : Nat} (hr : va_Run p l e room_1 s m args below meth c H locs cells slots mc ms (F0 m pc ls st0) rest (GQ g x0 m0 Γ a) (AA Γ H.size)) (X : CTX p l m meth c cL_law 7 s args RL g (AL s)) (hS : LWS g x0 m0 o0 s Γ H locs) (hdp : decode cL_law (pc + 3) = .ok (.pop, 1))
    (kk : ∀ (Γ1 : Nat → Nat) (H1 : Heap) (locs1 : List Loc), LWS g x0 m0 o0 s Γ1 H1 locs1 → W p l e room_1 s m args below meth c H1 locs1 (cells + mc) (slots + ms) Q (F0 m (pc + 4) ls rest)) : W p l e room_1 s m args below meth c H locs cells slots Q (F0 m pc ls st0) := by
  intro T hT X0
  obtain ⟨v, st₀, t, T', L, h0, X', hL, e1, e2, ⟨r, Γ', hv, hh, hu, ha, hLF, hFr⟩, st⟩ := hr T hT X0
  cases hv
  unfold va_F at hFr
  rw [h0] at ha hFr
  rw [← e1] at hh hLF hFr
  obtain ⟨hFS, hLS, ho1, ho2, hO⟩ := hS
  have hlt := hO.lt
  have hsz := hFS.2.2.2.1
  have hno : ¬ AA Γ H.size o0 := fun h => h.elim (fun h => h ho1) (fun h => absurd hlt (Nat.not_lt.mpr h))
  have hA : ∀ q : Nat, AA Γ H.size q → AL s q := fun q h => h.elim (hFS.2.2.1 q) (fun h => Nat.le_trans hsz h)
  have hS' : va_S (AL s) s.heap T'.heap (locs ++ L) := by
    refine ⟨Nat.le_trans hsz hFr.1, fun q h1 h2 => ?_, fun q hq => ?_⟩
    · exact (hFr.2 q (Nat.lt_of_lt_of_le h1 hsz) fun h => h2 (hA q h)).trans (hFS.2.2.2.2.1 q h1 h2)
    · rcases List.mem_append.mp hq with h | h
      · exact hFS.2.2.2.2.2 q h
      · exact hA _ (hL q h)
  have hN : LWS g x0 m0 o0 s Γ' T'.heap (locs ++ L) := ⟨⟨hh, hu, fun q hq => hA q (ha q hq), hS'⟩, hLF, Classical.byContradiction fun h => hno (ha o0 h), ho2, hO.kept (hFr.2 o0 hlt hno)⟩
  obtain ⟨t2, a1, b1⟩ := (lv_pop (va := .int r) (pc := pc + 3) X.1 X.2.1 hdp rfl (kk Γ' T'.heap (locs ++ L) hN)) T' rfl X'
  exact ⟨t2, st t2 a1, b1⟩
/-- the pre of such a call -/
theorem law_gpre (X : CTX p l m meth c cL_law 7 s args RL g (AL s)) (hS : LWS g x0 m0 o0 s Γ H locs) {As : List Value} (U : State) (hU : U.heap = H) (hW : s.WarmedH U.vm) : GPRE g x0 m0 Γ H.size As U :=
  ⟨by rw [hU], f_pre X hS.1 U hU hW rfl, by rw [hU]; exact hS.2.1⟩
/-- what the law's line asks -/
theorem law_opre (X : CTX p l m meth c cL_law 7 s args RL g (AL s)) (hTh : THR (AL s) s s.heap) (hS : LWS g x0 m0 o0 s Γ H locs) (U : State) (hU : U.heap = H) (hW : s.WarmedH U.vm) : OPRE g x0 m0 o0 Γ H.size U := by
  have hA : ∀ q : Nat, AO Γ o0 H.size q → AL s q := fun q h => h.elim (fun h => h.elim (hS.1.2.2.1 q) (fun h => Nat.le_trans hS.1.2.2.2.1 h)) (fun h => by subst h; exact hS.2.2.2.1)
  refine ⟨by rw [hU], by rw [hU]; exact hS.1.1, X.2.2.2.2.2.1.warm hW, ?_, by rw [hU]; exact hS.2.1, ?_, by rw [hU]; exact hS.2.2.2.2⟩
  · rw [hU]
    exact ((X.2.2.2.2.2.2.1.moved hW.alike).kept hS.1.2.2.2.2.1).narrow hA
  · exact hTh.sub hS.1.2.2.2 hA hU hW
/-- the law's line's return -/
theorem law_lret {a : Array Value} {P : Array Value → State → Outcome → State → Prop} {mc ms : Nat} (hP : ∀ (a : Array Value) (st : State) (o : Outcome) (t : State), P a st o t → ∃ r : Int32, o = .returned (some (.int r)) ∧ LB g x0 m0 Γ t ∧ ORW g o0 t.heap ∧ va_F (AO Γ o0 H.size) st t) (hr : va_Run p l e room_1 s m args below meth c H locs cells slots mc ms (F0 m pc ls st0) rest (P a) (AO Γ o0 H.size)) (hS : LWS g x0 m0 o0 s Γ H locs)
    (kk : ∀ (r : Int32) (H1 : Heap) (locs1 : List Loc), LWS g x0 m0 o0 s Γ H1 locs1 → W p l e room_1 s m args below meth c H1 locs1 (cells + mc) (slots + ms) Q (F0 m (pc + 3) ls (.int r :: rest))) : W p l e room_1 s m args below meth c H locs cells slots Q (F0 m pc ls st0) := by
  intro T hT X0
  obtain ⟨v, st₀, t, T', L, h0, X', hL, e1, e2, hP9, st⟩ := hr T hT X0
  obtain ⟨r, hv, ⟨hh, hLF⟩, hO9, hFr⟩ := hP _ _ _ _ hP9
  cases hv
  unfold va_F at hFr
  rw [h0] at hFr
  rw [← e1] at hh hLF hFr hO9
  obtain ⟨hFS, hLS, ho1, ho2, hO⟩ := hS
  have hsz := hFS.2.2.2.1
  have hA : ∀ q : Nat, AO Γ o0 H.size q → AL s q := fun q h => h.elim (fun h => h.elim (hFS.2.2.1 q) (fun h => Nat.le_trans hsz h)) (fun h => by subst h; exact ho2)
  have hS' : va_S (AL s) s.heap T'.heap (locs ++ L) := by
    refine ⟨Nat.le_trans hsz hFr.1, fun q h1 h2 => ?_, fun q hq => ?_⟩
    · exact (hFr.2 q (Nat.lt_of_lt_of_le h1 hsz) fun h => h2 (hA q h)).trans (hFS.2.2.2.2.1 q h1 h2)
    · rcases List.mem_append.mp hq with h | h
      · exact hFS.2.2.2.2.2 q h
      · exact hA _ (hL q h)
  obtain ⟨t2, a1, b1⟩ := kk r T'.heap (locs ++ L) ⟨⟨hh, hFS.2.1, hFS.2.2.1, hS'⟩, hLF, ho1, ho2, hO9⟩ T' rfl X'
  exact ⟨t2, st t2 a1, b1⟩
/-- ways of one of the two: what it answers -/
theorem law_wret {a : Array Value} {P : Array Value → State → Outcome → State → Prop} {sp : SPEC} {As : List Value} {w : Value} (hP : ∀ (a : Array Value) (st : State) (o : Outcome) (t : State), P a st o t → SQ g TS0 Γ sp As a st o t ∧ o = .returned (some w) ∧ (Un g TS0 Γ sp.2.2.2.2.1 st.heap t.heap → LF g x0 m0 Γ st.heap → LF g x0 m0 Γ t.heap)) (hr : va_Run p l e room_1 s m args below meth c H locs cells slots 0 0 (F0 m pc ls st0) rest (P a) (fun q => Γ q ≠ 0)) (hS : LWS g x0 m0 o0 s Γ H locs)
    (kk : ∀ (H1 : Heap) (locs1 : List Loc), LWS g x0 m0 o0 s Γ H1 locs1 → W p l e room_1 s m args below meth c H1 locs1 cells slots Q (F0 m (pc + 3) ls (w :: rest))) : W p l e room_1 s m args below meth c H locs cells slots Q (F0 m pc ls st0) := by
  intro T hT X0
  obtain ⟨v, st₀, t, T', L, h0, X', hL, e1, e2, hP9, st⟩ := hr T hT X0
  obtain ⟨⟨v2, hv, hro, hh, hz, hk, hu⟩, hw, hLF⟩ := hP _ _ _ _ hP9
  cases hw
  rw [h0] at hz hk hu hLF
  rw [← e1] at hh hz hk hu hLF
  obtain ⟨hFS, hLS, ho1, ho2, hO⟩ := hS
  have hS' : va_S (AL s) s.heap T'.heap (locs ++ L) := by
    refine ⟨by rw [hz]; exact hFS.2.2.2.1, fun q h1 h2 => ?_, fun q hq => ?_⟩
    · have h3 : Γ q = 0 := Classical.byContradiction fun z => h2 (hFS.2.2.1 q z)
      exact (hk q h3).trans (hFS.2.2.2.2.1 q h1 h2)
    · rcases List.mem_append.mp hq with h | h
      · exact hFS.2.2.2.2.2 q h
      · exact hFS.2.2.1 _ (hL q h)
  obtain ⟨t2, a1, b1⟩ := kk T'.heap (locs ++ L) ⟨⟨hh, hFS.2.1, hFS.2.2.1, hS'⟩, hLF hu hLS, ho1, ho2, hO.kept (hk o0 ho1)⟩ T' rfl X'
  exact ⟨t2, st t2 a1, b1⟩
end
/-- on from behind a call -/
def LGO (p : Program) (l : Launch) (e : Env) (s : State) (m : MethodId) (b : Nat) (below : List Frame) (meth : Method) (c : Code) (g : GG) (x0 m0 o0 i C S : Nat) : Prop := ∀ (Γ : Nat → Nat) (H : Heap) (locs : List Loc) (ls : Array Slot) (cells slots : Nat), cells ≤ C → slots ≤ S → LWS g x0 m0 o0 s Γ H locs → lv_has ls 7 (LO b x0 m0 o0 i) → W p l e room_1 s m #[Value.ref b] below meth c H locs cells slots (lw_Z below #[Value.ref b] s) (F0 m 1836 ls [])

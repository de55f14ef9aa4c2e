/-! contracts by hand over heaps that keep to their tags -/
theorem VR1 {g : GG} {Γ : Nat → Nat} {a : AV} : ∀ {avs : List Value}, VR g Γ [a] avs → ∃ v1, avs = [v1] ∧ avi g Γ a v1
  | [v1], h => ⟨v1, rfl, h.1⟩
  | [], h => h.elim
  | _ :: _ :: _, h => h.2.elim
theorem VR3 {g : GG} {Γ : Nat → Nat} {a b c : AV} : ∀ {avs : List Value}, VR g Γ [a, b, c] avs → ∃ v1 v2 v3, avs = [v1, v2, v3] ∧ avi g Γ a v1 ∧ avi g Γ b v2 ∧ avi g Γ c v3
  | [v1, v2, v3], h => ⟨v1, v2, v3, rfl, h.1, h.2.1, h.2.2.1⟩
  | [], h => h.elim
  | [_], h => h.2.elim
  | [_, _], h => h.2.2.elim
  | _ :: _ :: _ :: _ :: _, h => h.2.2.2.elim
theorem VR4 {g : GG} {Γ : Nat → Nat} {a b c d : AV} : ∀ {avs : List Value}, VR g Γ [a, b, c, d] avs → ∃ v1 v2 v3 v4, avs = [v1, v2, v3, v4] ∧ avi g Γ a v1 ∧ avi g Γ b v2 ∧ avi g Γ c v3 ∧ avi g Γ d v4
  | [v1, v2, v3, v4], h => ⟨v1, v2, v3, v4, rfl, h.1, h.2.1, h.2.2.1, h.2.2.2.1⟩
  | [], h => h.elim
  | [_], h => h.2.elim
  | [_, _], h => h.2.2.elim
  | [_, _, _], h => h.2.2.2.elim
  | _ :: _ :: _ :: _ :: _ :: _, h => h.2.2.2.2.elim
theorem VR6 {g : GG} {Γ : Nat → Nat} {a b c d e f : AV} : ∀ {avs : List Value}, VR g Γ [a, b, c, d, e, f] avs → ∃ v1 v2 v3 v4 v5 v6, avs = [v1, v2, v3, v4, v5, v6] ∧ avi g Γ a v1 ∧ avi g Γ b v2 ∧ avi g Γ c v3 ∧ avi g Γ d v4 ∧ avi g Γ e v5 ∧ avi g Γ f v6
  | [v1, v2, v3, v4, v5, v6], h => ⟨v1, v2, v3, v4, v5, v6, rfl, h.1, h.2.1, h.2.2.1, h.2.2.2.1, h.2.2.2.2.1, h.2.2.2.2.2.1⟩
  | [], h => h.elim
  | [_], h => h.2.elim
  | [_, _], h => h.2.2.elim
  | [_, _, _], h => h.2.2.2.elim
  | [_, _, _, _], h => h.2.2.2.2.elim
  | [_, _, _, _, _], h => h.2.2.2.2.2.elim
  | _ :: _ :: _ :: _ :: _ :: _ :: _ :: _, h => h.2.2.2.2.2.2.elim
/-- a count in bounds -/
theorem avi_nn {g : GG} {Γ : Nat → Nat} {lo hi : Nat} {x : Int32} (h : avi g Γ (0, .ofNat lo, .ofNat hi) (.int x)) : ∃ k : Nat, x = nI k ∧ lo ≤ k ∧ k ≤ hi := by
  obtain ⟨-, h1, h2⟩ := h
  have h1 : (lo : Int) ≤ x.toInt := h1
  have h2 : x.toInt ≤ (hi : Int) := h2
  have h3 := Int32.toInt_lt x
  refine ⟨x.toInt.toNat, Int32.toInt_inj.mp ?_, by omega, by omega⟩
  rw [nI_toInt (by omega)]
  omega
theorem avi_nI {g : GG} {Γ : Nat → Nat} {lo hi k : Nat} (h1 : lo ≤ k) (h2 : k ≤ hi) (h3 : hi < 2 ^ 31) : avi g Γ (0, .ofNat lo, .ofNat hi) (.int (nI k)) := by
  have e : (nI k).toInt = (k : Int) := nI_toInt (by omega)
  exact ⟨rfl, by rw [e]; exact Int.ofNat_le.mpr h1, by rw [e]; exact Int.ofNat_le.mpr h2⟩
theorem SM_hand {l : Launch} {g : GG} {ts : TS} {y : MethodName} {cc : ByteArray} {nL : Nat} {r : Option FieldType} {sp : SPEC} {own : String} (ho : y.cls = own) (hy : plainName y.cls = true) (hA : (sp.2.1.map acat).sum ≤ nL)
    (body : ∀ (p : Program) (e : Env) (s : State) (m : MethodId) (below : List Frame) (meth : Method) (c : Code) (Γ : Nat → Nat) (As : List Value) (ls : Array Slot) (Q : State → Prop), UQ ts Γ → VR g Γ sp.2.1 As → MQ below (SQ g ts Γ sp As) As.toArray s 0 0 (fun q => Γ q ≠ 0) = Q → CTX p l m meth c cc nL s As.toArray own g (AA Γ s.heap.size) → meth.sig.returnType = r → HI g ts Γ sp.2.2.2.2.1 s s.heap [] → PFT g ts Γ As sp.2.2.2.2.2 s.heap → lv_has ls nL (lv_args 0 As) → W p l e (RM sp.1 0 0) s m As.toArray below meth c s.heap [] 0 0 Q (F0 m 0 ls [])) : SM l g ts y cc nL r sp := by
  intro Γ As hU hV
  have hA2 : (lg_sl As).length ≤ nL := by rw [sl_len hV]; exact hA
  refine Met.ofW (cc := cc) (maxL := nL) (ret := r) hy rfl ?_
  intro p e s m args below meth c s₁ B hml hv
  obtain ⟨rfl, hT, hKX, hTB, hPF⟩ := hv
  have hts := atoms_spec (ws := WW y cc nL r) B.pre
  have hl := lv_entry As (n := nL) hA2
  have X : CTX p l m meth c cc nL s As.toArray own g (AA Γ s.heap.size) := ⟨B.exec, B.bytes, hml, by rw [← ho]; exact findClass_of_methodNamed B.named, fun w h => hts w (List.mem_cons_of_mem _ h), hKX, hTB, fun q h => Or.inr h, B.notSynchronized⟩
  rw [lg_entry_eq]
  exact body p e s m below meth c Γ As _ _ hU hV rfl X B.returns ⟨hT, rfl, fun _ _ => rfl, fun _ h => (List.not_mem_nil h).elim, fun q _ => Un1.same rfl⟩ hPF hl
theorem RO_some {g : GG} {Γ : Nat → Nat} {sp : SPEC} {As : List Value} {v : Option Value} (h7 : Nat.beq sp.2.2.1.1 7 = false) (h : RO g Γ sp As v) : ∃ w, v = some w ∧ avi g Γ sp.2.2.1 w ∧ ∀ q ∈ sp.2.2.2.1, ∀ x : Int32, w = .int x → q.1 ≤ x.toInt → x.toInt ≤ q.2.1 → ∃ u, As[q.2.2.1]? = some u ∧ avi g Γ q.2.2.2 u := by
  cases v with
  | none => rw [show sp.2.2.1.1 = 7 from h] at h7; cases h7
  | some w => exact ⟨w, rfl, h.1, h.2⟩
theorem RO_none {g : GG} {Γ : Nat → Nat} {sp : SPEC} {As : List Value} {v : Option Value} (h7 : sp.2.2.1.1 = 7) (h : RO g Γ sp As v) : v = none := by
  cases v with
  | none => rfl
  | some w =>
    have h1 := h.1
    cases w with
    | int x => rw [h1.1] at h7; cases h7
    | long x => rw [h1.1] at h7; cases h7
    | ref q => rcases h1 with ⟨z | z, -⟩ | ⟨z, -⟩ | ⟨z, -⟩ <;> (rw [z] at h7; cases h7)
    | null => rcases h1 with z | z <;> (rw [z] at h7; cases h7)
    | float x => exact absurd h1 id
    | double x => exact absurd h1 id
    | retAddr x => exact absurd h1 id
/-- a plain result -/
theorem RO_of {g : GG} {Γ : Nat → Nat} {sp : SPEC} {As : List Value} {v : Value} (h : avi g Γ sp.2.2.1 v) (hi : sp.2.2.2.1 = []) : RO g Γ sp As (some v) := ⟨h, fun q hq => by rw [hi] at hq; cases hq⟩
section
variable {p : Program} {l : Launch} {e : Env} {R : Room} {s : State} {m : MethodId} {args : Array Value} {below : List Frame} {meth : Method} {c : Code} {H : Heap} {locs : List Loc} {cells slots : Nat} {Q : State → Prop}
variable {cc : ByteArray} {pc nL : Nat} {ls : Array Slot} {rest : List Value} {own : String} {g : GG} {ts : TS} {Γ : Nat → Nat} {mods : List (Nat × Nat)} {q z : Nat}
/-- reading by a picture that is known -/
theorem h_ialdK (X : CTX p l m meth c cc nL s args own g (AA Γ z)) {n k : Nat} {f : Nat → Int32} (hP : AT g 1 n q f H) (hk : k < n) (hn : n < 2 ^ 31) (hdg : decode cc pc = .ok (.iaload, 1))
    (kk : W p l e R s m args below meth c H locs cells slots Q (F0 m (pc + 1) ls (.int (f k) :: rest))) : W p l e R s m args below meth c H locs cells slots Q (F0 m pc ls (.int (nI k) :: .ref q :: rest)) := by
  have hP2 : va_P g.1 CLS [(q, .inl (g.2.1 1, (n, .inl f)))] H := fun j r hr => by
    cases j with
    | zero => cases hr; exact hP
    | succ j => cases hr
  exact va_iald X.1 X.2.1 X.2.2.2.2.2.1.1 hP2 0 1 rfl rfl (vp_in_nI hk hn) hdg (by rw [nI_clamp (by omega)]; exact kk)
end
/-- the lines' bounds by their places -/
theorem lsp_row {sp : Nat → Int × Int} {f : Nat → Int32} (h : ∀ j : Nat, j < 72 → (sp (j % 6)).1 ≤ (f j).toInt ∧ (f j).toInt ≤ (sp (j % 6)).2) {i w : Nat} (hi : i ≤ 11) (hw : w ≤ 5) : (sp w).1 ≤ (f (i * 6 + w)).toInt ∧ (f (i * 6 + w)).toInt ≤ (sp w).2 := by
  have h1 := h (i * 6 + w) (by omega)
  have e : (i * 6 + w) % 6 = w := by omega
  rw [e] at h1
  exact h1
/-! out of exact contracts: the cells that a method needs are cut out of the heap -/
theorem FE_filt {st t : State} {o : Outcome} {L : List Loc} (h : FrameEnd st o t L 0 0) : FrameEnd st o t (L.filter fun z => Nat.blt z.base st.heap.size) 0 0 := by
  obtain ⟨h1, h2, h3, h4, h5, h6, h7, h8⟩ := h
  refine ⟨h1, h2, h3, h4, h5, h6, h7, fun a c hc => ?_⟩
  obtain ⟨c', g1, g2, g3, g4⟩ := h8 a c hc
  refine ⟨c', g1, g2, g3, fun i hi => g4 i fun hm => hi (List.mem_filter.mpr ⟨hm, ?_⟩)⟩
  exact blt_of (Array.getElem?_eq_some_iff.mp hc).1
theorem FE_size {st t : State} {o : Outcome} {L : List Loc} (h : FrameEnd st o t L 0 0) : t.heap.size = st.heap.size :=
  Nat.le_antisymm h.2.2.2.2.1 h.2.2.2.1
theorem SM_emb {l : Launch} {g : GG} {ts : TS} {y : MethodName} {cc : ByteArray} {nL : Nat} {r : Option FieldType} {sp : SPEC}
    (h : ∀ (Γ : Nat → Nat) (As : List Value), UQ ts Γ → VR g Γ sp.2.1 As → ∀ U : State, HT g ts Γ U.heap → PFT g ts Γ As sp.2.2.2.2.2 U.heap → ∃ (ws : va_W) (Qs : Array Value → State → Outcome → State → Prop), Met l y (WW y cc nL r) (RM sp.1 0 0) (va_Pc As (PRE g ws U.heap.size)) Qs 0 0 (va_A ws U.heap.size) ∧ va_P g.1 CLS ws U.heap ∧ va_D (fun q => Γ q ≠ 0) ws ∧ ∀ (a : Array Value) (o : Outcome) (t : State), Qs a U o t → t.heap.size = U.heap.size → SQ g ts Γ sp As a U o t) : SM l g ts y cc nL r sp := by
  intro Γ As hU hV p e h1 h2 h3 s m args below h4 h5 h6 h7
  obtain ⟨ea, hT, hK, hTB, hPF⟩ := h6
  obtain ⟨ws, Qs, hM, hP, hD, hQ⟩ := h Γ As hU hV s hT hPF
  have hA : ∀ q, va_A ws s.heap.size q → AA Γ s.heap.size q := fun q hq => by
    rcases hq with ⟨k, e, hq⟩ | hq
    · exact Or.inl (hD.2 k _ hq)
    · exact Or.inr hq
  obtain ⟨n, o, a1, a2, a3, a4, L, a5, a6⟩ := hM p e h1 h2 h3 s m args below h4 h5 ⟨ea, rfl, hP, hK, hD.weaken (fun _ _ _ _ => trivial), hTB.narrow hA⟩ h7
  refine ⟨n, o, a1, a2, a3, hQ _ _ _ a4 (FE_size a5), _, FE_filt a5, fun q hq => ?_⟩
  obtain ⟨q1, q2⟩ := List.mem_filter.mp hq
  have q2 := blt_lt q2
  rcases a6 q q1 with ⟨k, e, hz⟩ | hz
  · exact hD.2 k _ hz
  · exact absurd hz (by omega)
/-- what was not touched keeps to its tags -/
theorem HT_upd {g : GG} {ts : TS} {Γ : Nat → Nat} {H H1 : Heap} {ws : va_W} (hT : HT g ts Γ H) (hz : H1.size = H.size) (hk : ∀ q : Nat, q < H.size → ¬ va_A ws H.size q → H1[q]? = H[q]?) (hc : ∀ (k q : Nat) (e : va_E), ws[k]? = some (q, e) → cok g ts Γ q H1) (hi : INV g ts Γ H1) : HT g ts Γ H1 := by
  refine ⟨fun q hq => ?_, hi⟩
  by_cases h : ∃ (k : Nat) (e : va_E), ws[k]? = some (q, e)
  · obtain ⟨k, e, h⟩ := h
    exact hc k q e h
  · have h0 := hT.1 q hq
    have hlt := h0.lt
    refine h0.kept (hk q hlt fun hA => ?_)
    rcases hA with ⟨k, e, hA⟩ | hA
    · exact h ⟨k, e, hA⟩
    · omega
theorem out_same {Γ : Nat → Nat} {H H1 : Heap} {ws : va_W} (hz : H1.size = H.size) (hk : ∀ q : Nat, q < H.size → ¬ va_A ws H.size q → H1[q]? = H[q]?) (hw : ∀ (k q : Nat) (e : va_E), ws[k]? = some (q, e) → Γ q ≠ 0) : ∀ q : Nat, Γ q = 0 → H1[q]? = H[q]? := fun q hq => by
  by_cases hl : q < H.size
  · refine hk q hl fun hA => ?_
    rcases hA with ⟨k, e, hA⟩ | hA
    · exact hw k q e hA hq
    · omega
  · have e1 : H[q]? = none := Array.getElem?_eq_none (by omega)
    have e2 : H1[q]? = none := Array.getElem?_eq_none (by omega)
    rw [e1, e2]
/-- an object's cell -/
theorem h_obj {g : GG} {ts : TS} {Γ : Nat → Nat} {H : Heap} {q ci : Nat} {fs : List AV} (hT : HT g ts Γ H) (hq : Γ q ≠ 0) (ht : ts.1 (Γ q) = .inl (ci, fs)) : ∃ vs : List Value, va_at g.1 CLS (q, .inr (ci, vs)) H ∧ VR g Γ fs vs := by
  have hc := hT.1 q hq
  unfold cok at hc
  rw [ht] at hc
  exact hc
theorem h_ints {g : GG} {ts : TS} {Γ : Nat → Nat} {H : Heap} {q k n : Nat} {a : AV} (hk : k = 0 ∨ k = 1 ∨ k = 3) (hT : HT g ts Γ H) (hq : Γ q ≠ 0) (ht : ts.1 (Γ q) = .inr (k, n, a)) : ∃ f : Nat → Int32, AT g k n q f H ∧ ∀ j : Nat, j < n → avi g Γ a (.int (f j)) := by
  obtain ⟨⟨n', f⟩, hP, rfl, hA⟩ := h_at hT hq ht
  have hP := hP 0 _ rfl
  rcases f with f | f | f | f | f
  · exact ⟨f, hP, hA.2⟩
  · have hA : k = 2 := hA
    omega
  · exact hA.elim
  · exact hA.elim
  · have hA := hA.1
    omega
theorem md_sub {l1 l2 : List (Nat × Nat)} (h : (l1.all fun q => md l2 q.1 q.2) = true) : ∀ t k : Nat, md l1 t k = true → md l2 t k = true := fun t k hk => by
  obtain ⟨q, hq, hq2⟩ := List.any_eq_true.mp hk
  obtain ⟨z1, z2⟩ := Bool.and_eq_true_iff.mp hq2
  have z1 := Nat.eq_of_beq_eq_true z1
  have z2 := Nat.eq_of_beq_eq_true z2
  subst z1; subst z2
  exact List.all_eq_true.mp h q hq
theorem no_pf {g : GG} {ts : TS} {Γ : Nat → Nat} {As : List Value} {H : Heap} : PFT g ts Γ As [] H := fun _ h => by cases h
theorem av_r {g : GG} {Γ : Nat → Nat} {q t : Nat} (h : Γ q = t) (h0 : Γ q ≠ 0) : avi g Γ (1, .ofNat t, 0) (.ref q) := Or.inl ⟨Or.inl rfl, h, h0⟩
theorem INV2_keep {g : GG} {Γ : Nat → Nat} {mods : List (Nat × Nat)} {H0 H1 : Heap} (h2 : INV2 g Γ H0) (hu : Un g TS0 Γ mods H0 H1) (gd : ∀ q ∈ [(4, 3), (4, 5), (32, 0), (34, 0)], md mods q.1 q.2 = false) : INV2 g Γ H1 := fun q hq => by
  obtain ⟨b1, b2, b3, b4, fk, fc, b5, b6, b7⟩ := h2 q hq
  exact ⟨b1, b2, hu.fld hq (by decide) rfl (gd (4, 3) (by decide)) b3, hu.fld hq (by decide) rfl (gd (4, 5) (by decide)) b4, fk, fc, b5.kept (hu.arr b1 (by decide) rfl (gd (32, 0) (by decide))), b6.kept (hu.arr b2 (by decide) rfl (gd (34, 0) (by decide))), b7⟩
theorem INV3_keep {g : GG} {Γ : Nat → Nat} {mods : List (Nat × Nat)} {H0 H1 : Heap} (h3 : INV3 g Γ H0) (hu : Un g TS0 Γ mods H0 H1) (gd : ∀ q ∈ [(7, 0), (7, 2), (7, 3), (44, 0), (46, 0)], md mods q.1 q.2 = false) : INV3 g Γ H1 := fun q hq => by
  obtain ⟨b1, b2, b3, b4, n, f, m, b5, b6, b7, b8, b9⟩ := h3 q hq
  exact ⟨b1, b2, hu.fld hq (by decide) rfl (gd (7, 0) (by decide)) b3, hu.fld hq (by decide) rfl (gd (7, 2) (by decide)) b4, n, f, m, hu.fld hq (by decide) rfl (gd (7, 3) (by decide)) b5, b6, b7.kept (hu.arr b1 (by decide) rfl (gd (44, 0) (by decide))), b8.kept (hu.arr b2 (by decide) rfl (gd (46, 0) (by decide))), b9⟩
theorem TS05 : TS0 ≠ TS5 := fun h => by
  have : TS0.2.2 = TS5.2.2 := by rw [h]
  exact absurd this (by decide)
theorem INV0 {g : GG} {Γ : Nat → Nat} {H : Heap} (h1 : INV14 g Γ H) (h2 : INV2 g Γ H) (h3 : INV3 g Γ H) : INV g TS0 Γ H := ⟨fun _ => ⟨h1, h2, h3⟩, fun e => absurd e TS05⟩
theorem HI_wrG {g : GG} {ts : TS} {Γ : Nat → Nat} {mods : List (Nat × Nat)} {s : State} {H H1 : Heap} {locs : List Loc} {a j k : Nat} (h : HI g ts Γ mods s H locs) (ha : Γ a ≠ 0) (hz : H1.size = H.size) (oq : ∀ q : Nat, q ≠ a → H1[q]? = H[q]?) (hc : cok g ts Γ a H1) (hmd : md mods (Γ a) k = true) (hu : Un1 g ts Γ [(Γ a, k)] a H H1) (hinv : Un g ts Γ [(Γ a, k)] H H1 → INV g ts Γ H1) : HI g ts Γ mods s H1 (locs ++ [⟨a, j⟩]) ∧ Un g ts Γ [(Γ a, k)] H H1 := by
  have hm3 : ∀ t k', md [(Γ a, k)] t k' = true → md mods t k' = true := fun t k' hq => by
    obtain ⟨r, hr, hr2⟩ := List.any_eq_true.mp hq
    rw [List.mem_singleton.mp hr] at hr2
    obtain ⟨z1, z2⟩ := Bool.and_eq_true_iff.mp hr2
    rw [← Nat.eq_of_beq_eq_true z1, ← Nat.eq_of_beq_eq_true z2]; exact hmd
  have hun : Un g ts Γ [(Γ a, k)] H H1 := fun q hq => by
    by_cases e : q = a
    · subst e; exact hu
    · exact Un1.same (oq q e)
  refine ⟨⟨⟨fun q hq => ?_, hinv hun⟩, hz.trans h.2.1, fun q hq => ?_, fun l hl => ?_, fun q hq => ?_⟩, hun⟩
  · by_cases e : q = a
    · subst e; exact hc
    · exact (h.1.1 q hq).kept (oq q e)
  · rw [oq q (fun e => ha (by rw [← e]; exact hq))]
    exact h.2.2.1 q hq
  · rcases List.mem_append.mp hl with hl | hl
    · exact h.2.2.2.1 l hl
    · rw [List.mem_singleton.mp hl]; exact ha
  · exact (h.2.2.2.2 q hq).trans ((hun q hq).mono hm3)
theorem upd_cell (c : ClassId) (n k : Nat) (f : Nat → Int32) (x : Int32) : arrV c n (updV (fun j => Value.int (f j)) k (.int x)) = arrV c n (fun j => Value.int (upd f k x j)) := by
  congr 1
  funext y
  by_cases hy : y = k
  · subst hy
    simp [updV, upd]
  · simp [updV, upd, hy]
section
variable {p : Program} {l : Launch} {e : Env} {R : Room} {s : State} {m : MethodId} {args : Array Value} {below : List Frame} {meth : Method} {c : Code} {H : Heap} {locs : List Loc} {cells slots : Nat} {Q : State → Prop}
variable {cc : ByteArray} {pc nL : Nat} {ls : Array Slot} {rest : List Value} {own : String} {g : GG} {Γ : Nat → Nat} {mods : List (Nat × Nat)} {q : Nat}
/-- a line's end, told by hand -/
theorem h_stoL (X : CTX p l m meth c cc nL s args own g (AA Γ s.heap.size)) (hI : HI g TS0 Γ mods s H locs) (hq : Γ q = 25) {i : Nat} (hi : i ≤ 11) {x : Int32} (h1 : (-1 : Int) ≤ x.toInt) (h2 : x.toInt ≤ (24 : Int)) (hm : md mods 25 0 = true) (hdg : decode cc pc = .ok (.iastore, 1))
    (kk : ∀ (H1 : Heap) (locs1 : List Loc), HI g TS0 Γ mods s H1 locs1 → Un g TS0 Γ [(25, 0)] H H1 → W p l e R s m args below meth c H1 locs1 cells slots Q (F0 m (pc + 1) ls rest)) : W p l e R s m args below meth c H locs cells slots Q (F0 m pc ls (.int x :: .int (nI (i * 6 + 5)) :: .ref q :: rest)) := by
  have hq0 : Γ q ≠ 0 := by rw [hq]; decide
  obtain ⟨hv1, hv2, hv3⟩ := hI.1.2.1 rfl
  obtain ⟨f, hf, hfb⟩ := hv1.1 q (Or.inl hq)
  have ek : (nI (i * 6 + 5)).toNatClampNeg = i * 6 + 5 := nI_clamp (by omega)
  have hfb' : ∀ j : Nat, j < 72 → (lsp (j % 6)).1 ≤ (upd f (i * 6 + 5) x j).toInt ∧ (upd f (i * 6 + 5) x j).toInt ≤ (lsp (j % 6)).2 := fun j hj => by
    by_cases e : j = i * 6 + 5
    · subst e
      have e6 : (i * 6 + 5) % 6 = 5 := by omega
      rw [e6]
      simp only [upd, if_true]
      exact ⟨h1, h2⟩
    · simp only [upd, e, if_false]
      exact hfb j hj
  have hcell : H[q]? = some (arrV (g.2.1 1) 72 fun j => .int (f j)) := hf
  refine W.iast X.1 X.2.1 hcell ((X.2.2.2.2.2.1.1.2 1 _ rfl).1 72 (fun j => .int (f j))) (fun q => by cases q) (by rw [arrV_size]; exact vp_in_nI (by omega) (by decide)) rfl rfl hdg fun H' e1 e2 e3 => ?_
  have hnew : AT g 1 72 q (upd f (i * 6 + 5) x) H' := by
    show H'[q]? = some (vp_cell _ _)
    rw [e1, vp_cell_i, arrV_store, ek, upd_cell]
  have hWR := HI_wrG (j := (nI (i * 6 + 5)).toNatClampNeg) (k := 0) hI hq0 e2 e3 (by
    unfold cok
    rw [hq]
    refine ⟨(72, .inl (upd f (i * 6 + 5) x)), hnew, rfl, Or.inr (Or.inl rfl), fun j hj => ⟨rfl, ?_, ?_⟩⟩
    · have := (hfb' j hj).1
      have h3 : (-1 : Int) ≤ (lsp (j % 6)).1 := by
        unfold lsp; split <;> decide
      exact Int.le_trans h3 this
    · have := (hfb' j hj).2
      have h3 : (lsp (j % 6)).2 ≤ (24 : Int) := by
        unfold lsp; split <;> decide
      exact Int.le_trans this h3) (by rw [hq]; exact hm) (by
    unfold Un1
    rw [hq]
    intro h
    rw [md_self] at h; cases h) (fun hun => by
    rw [hq] at hun
    refine INV0 ⟨fun q' hq' => ?_, fun q' hq' => ?_⟩ (INV2_keep hv2 hun (by decide)) (INV3_keep hv3 hun (by decide))
    · by_cases e : q' = q
      · subst e; exact ⟨_, hnew, hfb'⟩
      · obtain ⟨f', a1, a2⟩ := hv1.1 q' hq'
        exact ⟨f', a1.kept (e3 q' e), a2⟩
    · obtain ⟨b1, b2, p, n, f', b3, b4, b5, b6, b7, b8⟩ := hv1.2 q' hq'
      refine ⟨b1, hun.fld hq' (by decide) rfl (by decide) b2, p, n, ?_⟩
      have c3 := hun.fld hq' (by decide) rfl (by decide) b3
      have c4 := hun.fld hq' (by decide) rfl (by decide) b4
      by_cases e : q' + 7 = q
      · subst e
        refine ⟨upd f (i * 6 + 5) x, c3, c4, b5, b6, hnew, fun j hj => ?_⟩
        obtain ⟨a, b, d1, d2, d3, d4⟩ := b8 j hj
        refine ⟨a, b, d1, d2, ?_, ?_⟩
        · rw [← d3, ← (AT_fun hf b7 (j := j * 6) (by omega)).2]; simp only [upd, if_neg (show ¬ j * 6 = i * 6 + 5 by omega)]
        · rw [← d4, ← (AT_fun hf b7 (j := j * 6 + 1) (by omega)).2]; simp only [upd, if_neg (show ¬ j * 6 + 1 = i * 6 + 5 by omega)]
      · exact ⟨f', c3, c4, b5, b6, b7.kept (e3 _ e), b8⟩)
  rw [hq] at hWR
  exact kk H' _ hWR.1 hWR.2
end
theorem pf_fe {g : GG} {ts : TS} {Γ : Nat → Nat} {As : List Value} {pf : List (Nat × AV)} {H : Heap} {t k q ci : Nat} {fs : List AV} {a : AV} (hU : UQ ts Γ) (h : PFT g ts Γ As pf H) (hm : (fkey t k, a) ∈ pf) (hq : Γ q = t) (hu : uqt ts t = true) (ht : ts.1 t = .inl (ci, fs)) (h2 : t < 200) (h3 : k < 4096) : ∃ v, avi g Γ a v ∧ FE g q ci k H v := by
  obtain ⟨v, hv, hF⟩ := h _ hm
  obtain ⟨-, q', e1, e2⟩ := (FACT0 h2 h3).mp hF
  have e := hU q' q (e1.trans hq.symm) (by rw [e1]; exact hu)
  subst e
  unfold PLC at e2
  rw [ht] at e2
  exact ⟨v, hv, e2⟩
section
variable {p : Program} {l : Launch} {e : Env} {R : Room} {s : State} {m : MethodId} {args : Array Value} {below : List Frame} {meth : Method} {c : Code} {H : Heap} {locs : List Loc} {cells slots : Nat} {Q : State → Prop}
variable {cc : ByteArray} {pc nL : Nat} {ls : Array Slot} {rest : List Value} {own : String} {g : GG} {ts : TS} {Γ : Nat → Nat} {mods : List (Nat × Nat)} {q z : Nat}
/-- a field is written, the rest of what holds being told by hand -/
theorem h_putG (X : CTX p l m meth c cc nL s args own g (AA Γ z)) (hI : HI g ts Γ mods s H locs) {idx : Nat} {f : Bool × Nat × Nat × Bool × Nat} (hf : FOK own idx f) (hq : Γ q ≠ 0) {fs : List AV} {a b : AV} {v : Value} (ht : ts.1 (Γ q) = .inl (f.2.1, fs)) (hk : fs[f.2.2.1]? = some a) (hw : f.2.2.2.1 = true) (hv : avi g Γ b v) (hb : avle b a = true) (htc : tcok f.2.2.2.2 b = true) (hm : md mods (Γ q) f.2.2.1 = true) (hinv : ∀ H1 : Heap, FE g q f.2.1 f.2.2.1 H1 v → Un g ts Γ [(Γ q, f.2.2.1)] H H1 → INV g ts Γ H1) (hdg : decode cc pc = .ok (.putfield idx, 3))
    (kk : ∀ (H1 : Heap) (locs1 : List Loc), HI g ts Γ mods s H1 locs1 → Un g ts Γ [(Γ q, f.2.2.1)] H H1 → FE g q f.2.1 f.2.2.1 H1 v → W p l e R s m args below meth c H1 locs1 cells slots Q (F0 m (pc + 3) ls rest)) : W p l e R s m args below meth c H locs cells slots Q (F0 m pc ls (v :: .ref q :: rest)) := by
  have hc := hI.1.1 q hq
  unfold cok at hc
  rw [ht] at hc
  obtain ⟨vs, h1, h2⟩ := hc
  obtain ⟨n, ci, k, w, tc⟩ := f
  obtain ⟨C, T, N, ty, ref, host, hC, hN, hr, hl, hfin, hTC⟩ := hf
  dsimp only at hN hr hl hfin hTC hk hw htc hm ht h1 hinv
  obtain ⟨hn, hfit⟩ := nf_ok hTC htc hv
  have hkl : k < vs.length := by rw [h2.len]; exact (List.getElem?_eq_some_iff.mp hk).1
  have hap := va_apart (own := own) X.2.2.2.2.1 hC.2.1 ty hC.2.2.1 hC.2.2.2 X.2.2.2.2.2.1.1 hC.1
  obtain ⟨r, hr1, cell, q1, q2, q3, q4⟩ := h1
  have hre : r = (C, T, N) := Option.some.inj (hr1.symm.trans hC.1)
  subst hre
  obtain ⟨hS, hfc, kC, hkC, hkind⟩ := X.2.2.2.2.2.1.1.1 ci _ hC.1
  obtain ⟨cf, kf, fi, fd, hi, hsl⟩ := hS k hN
  have hlay := X.2.2.2.2.1 _ (hC.2.1 _ (u_in_lay hN))
  unfold u_lay at hlay
  rw [if_neg (by rw [hfin hw]; decide)] at hlay
  have hst := (u_facts hfc hkC (u_lays X.2.2.2.2.1 hC.2.1 hN) hi).1
  have h6 := u_store hfc hkC hkind hlay hi (hC.2.2.1 k hN) hn hfit
  have hsm : ∀ x, s.fieldFound? (T k).1 (T k).2.1 (T k).2.2.1 = some x → s.fieldFound? ref (T k).2.1 (T k).2.2.1 = some x := fun _ h => by rw [← hr]; exact h
  have fin : ∀ H' : Heap, H'[q]? = some (cell.setSlot fd.slot v) → H'.size = H.size → (∀ x, x ≠ q → H'[x]? = H[x]?) → W p l e R s m args below meth c H' (locs ++ [⟨q, fd.slot⟩]) cells slots Q (F0 m (pc + 3) ls rest) := by
    intro H' e1 e2 e3
    rw [hsl] at e1
    have hat : va_at g.1 CLS (q, .inr (ci, vs.set k v)) H' := ⟨_, hC.1, t_OB.to (V := updV (vp_V vs) k v) ⟨_, e1, q2, q3, t_set q4 hap hN v⟩ (fun j _ => vp_updV_set hkl v j)⟩
    have hWR := HI_wrG (j := fd.slot) hI hq e2 e3 ?_ hm ?_ (hinv H' ⟨_, _, hat, hC.1, hN, List.getElem?_set_self hkl⟩)
    · exact kk H' _ hWR.1 hWR.2 ⟨_, _, hat, hC.1, hN, List.getElem?_set_self hkl⟩
    · unfold cok
      rw [ht]
      exact ⟨_, hat, h2.put (avle_ok hb hv) hk⟩
    · unfold Un1
      rw [ht]
      intro k2 v2 hk2 hF
      obtain ⟨us, r2, ⟨r3, g1, cell2, g2, g3, g4, g5⟩, g6, g7, g8⟩ := hF
      have hne : k2 ≠ k := fun z => by rw [z, md_self] at hk2; cases hk2
      have er2 : r2 = (C, T, N) := Option.some.inj (g6.symm.trans hC.1)
      subst er2
      have er3 : r3 = (C, T, N) := Option.some.inj (g1.symm.trans hC.1)
      subst er3
      have ec : cell2 = cell := Option.some.inj (g2.symm.trans q1)
      subst ec
      have ev : vp_V us k2 = vp_V vs k2 := Option.some.inj ((g5 k2 g7).symm.trans (q4 k2 g7))
      have eu : vp_V us k2 = v2 := by rw [vp_V, List.getD_eq_getElem?_getD, g8]; rfl
      by_cases hl2 : k2 < vs.length
      · refine ⟨vs.set k v, _, hat, hC.1, g7, ?_⟩
        rw [List.getElem?_set_ne (Ne.symm hne), List.getElem?_eq_getElem hl2]
        rw [vp_V, vp_V, List.getD_eq_getElem?_getD, List.getD_eq_getElem?_getD, g8, List.getElem?_eq_getElem hl2] at ev
        exact congrArg some ev.symm
      · refine ⟨us.set k v, _, ⟨_, hC.1, t_OB.to (V := updV (vp_V us) k v) ⟨_, e1, q2, q3, t_set g5 hap hN v⟩ (fun j hj => ?_)⟩, hC.1, g7, ?_⟩
        · by_cases hj2 : k < us.length
          · exact vp_updV_set hj2 v j
          · exact absurd (Nat.lt_of_lt_of_le (List.getElem?_eq_some_iff.mp g8).1 (Nat.le_of_not_lt hj2)) (by omega)
        · rw [List.getElem?_set_ne (Ne.symm hne)]; exact g8
  cases n with
  | true => exact va_WputK X.1 X.2.1 (f := fd) X.2.2.2.1 (va_Nw.use rfl (X.2.2.2.2.2.1.2.1 _ hl)) (hsm _ hi) hst (by rw [q2]; exact h6) q1 q3 (by rw [hsl]; exact k2_hasslot (q4 k hN)) rfl rfl hdg fin
  | false => exact W.putK X.1 X.2.1 (f := fd) ⟨X.2.2.2.1, X.2.2.2.2.1 _ hl, ⟨_, _, _, hsm _ hi⟩, hst⟩ (by rw [q2]; exact h6) q1 q3 (by rw [hsl]; exact k2_hasslot (q4 k hN)) rfl rfl hdg fin

/-- an int or a boolean is laid into an array whose picture is known -/
theorem h_stK (X : CTX p l m meth c cc nL s args own g (AA Γ s.heap.size)) (hI : HI g ts Γ mods s H locs) (hq : Γ q ≠ 0) {kd n k : Nat} {a : AV} {instr : Jvm.ClassFile.Instr} {x : Int32} (hkd : (kd = 1 ∧ instr = .iastore) ∨ (kd = 3 ∧ instr = .bastore ∧ 0 ≤ x.toInt ∧ x.toInt ≤ 1)) (ht : ts.1 (Γ q) = .inr (kd, n, a)) {f : Nat → Int32} (hf : AT g kd n q f H) (hb : ∀ j : Nat, j < n → avi g Γ a (.int (f j))) (hk : k < n) (hn : n < 2 ^ 31) (hx : avi g Γ a (.int x)) (hm : md mods (Γ q) 0 = true) (hinv : ∀ H1 : Heap, AT g kd n q (upd f k x) H1 → (∀ y : Nat, y ≠ q → H1[y]? = H[y]?) → Un g ts Γ [(Γ q, 0)] H H1 → INV g ts Γ H1) (hdg : decode cc pc = .ok (instr, 1))
    (kk : ∀ (H1 : Heap) (locs1 : List Loc), HI g ts Γ mods s H1 locs1 → AT g kd n q (upd f k x) H1 → (∀ y : Nat, y ≠ q → H1[y]? = H[y]?) → Un g ts Γ [(Γ q, 0)] H H1 → W p l e R s m args below meth c H1 locs1 cells slots Q (F0 m (pc + 1) ls rest)) : W p l e R s m args below meth c H locs cells slots Q (F0 m pc ls (.int x :: .int (nI k) :: .ref q :: rest)) := by
  have hcell : H[q]? = some (arrV (g.2.1 kd) n fun j => .int (f j)) := hf
  have ek : (nI k).toNatClampNeg = k := nI_clamp (by omega)
  have hin : ¬ ((nI k) < 0 ∨ (arrV (g.2.1 kd) n fun j => Value.int (f j)).slots.size ≤ (nI k).toNatClampNeg) := by rw [arrV_size]; exact vp_in_nI hk hn
  have fin : ∀ H' : Heap, H'[q]? = some ((arrV (g.2.1 kd) n fun j => .int (f j)).setSlot (nI k).toNatClampNeg (.int x)) → H'.size = H.size → (∀ y, y ≠ q → H'[y]? = H[y]?) → W p l e R s m args below meth c H' (locs ++ [⟨q, (nI k).toNatClampNeg⟩]) cells slots Q (F0 m (pc + 1) ls rest) := by
    intro H' e1 e2 e3
    have hnew : AT g kd n q (upd f k x) H' := by
      show H'[q]? = some (vp_cell _ _)
      rw [e1, vp_cell_i, arrV_store, ek, upd_cell]
    have hk0 : kd = 0 ∨ kd = 1 ∨ kd = 3 := by rcases hkd with h | h <;> omega
    have hWR := HI_wrG (j := (nI k).toNatClampNeg) (k := 0) hI hq e2 e3 (by
      unfold cok
      rw [ht]
      refine ⟨(n, .inl (upd f k x)), hnew, rfl, hk0, fun j hj => ?_⟩
      by_cases hy : j = k
      · subst hy
        simp only [upd, if_true]
        exact hx
      · simp only [upd, hy, if_false]
        exact hb j hj) hm (by
      unfold Un1
      rw [ht]
      intro h
      rw [md_self] at h; cases h) (hinv H' hnew e3)
    exact kk H' _ hWR.1 hnew e3 hWR.2
  rcases hkd with ⟨rfl, rfl⟩ | ⟨rfl, rfl, b0, b1⟩
  · exact W.iast X.1 X.2.1 hcell ((X.2.2.2.2.2.1.1.2 1 _ rfl).1 n (fun j => .int (f j))) (fun q => by cases q) hin rfl rfl hdg fin
  · exact W.zast X.1 X.2.1 hcell ((X.2.2.2.2.2.1.1.2 3 _ rfl).1 n (fun j => .int (f j))) (fun q => by cases q) hin rfl rfl hdg (by rw [nar_z b0 b1]; exact fin)
theorem h_baldK (X : CTX p l m meth c cc nL s args own g (AA Γ z)) {n k : Nat} {f : Nat → Int32} (hP : AT g 3 n q f H) (hk : k < n) (hn : n < 2 ^ 31) (hdg : decode cc pc = .ok (.baload, 1))
    (kk : W p l e R s m args below meth c H locs cells slots Q (F0 m (pc + 1) ls (.int (f k) :: rest))) : W p l e R s m args below meth c H locs cells slots Q (F0 m pc ls (.int (nI k) :: .ref q :: rest)) := by
  have hP2 : va_P g.1 CLS [(q, .inl (g.2.1 3, (n, .inl f)))] H := fun j r hr => by
    cases j with
    | zero => cases hr; exact hP
    | succ j => cases hr
  exact va_zald X.1 X.2.1 X.2.2.2.2.2.1.1 hP2 0 3 rfl rfl (vp_in_nI hk hn) hdg (by rw [nI_clamp (by omega)]; exact kk)
end
/-- the same bounds, and nothing beside them -/
def TSx : TS := (TSF, UQ0, 9)
theorem TSx0 : TSx ≠ TS0 := fun h => by
  have : TSx.2.2 = TS0.2.2 := by rw [h]
  exact absurd this (by decide)
theorem TSx5 : TSx ≠ TS5 := fun h => by
  have : TSx.2.2 = TS5.2.2 := by rw [h]
  exact absurd this (by decide)
theorem INVx {g : GG} {Γ : Nat → Nat} {H : Heap} : INV g TSx Γ H := ⟨fun e => absurd e TSx0, fun e => absurd e TSx5⟩
theorem HI_x {g : GG} {Γ : Nat → Nat} {mods : List (Nat × Nat)} {s : State} {H : Heap} {locs : List Loc} (h : HI g TS0 Γ mods s H locs) : HI g TSx Γ mods s H locs := ⟨⟨h.1.1, INVx⟩, h.2⟩
theorem HI_0 {g : GG} {Γ : Nat → Nat} {mods : List (Nat × Nat)} {s : State} {H : Heap} {locs : List Loc} (h : HI g TSx Γ mods s H locs) (hi : INV g TS0 Γ H) : HI g TS0 Γ mods s H locs := ⟨⟨h.1.1, hi⟩, h.2⟩
theorem Un_0 {g : GG} {Γ : Nat → Nat} {mods : List (Nat × Nat)} {H H1 : Heap} (h : Un g TSx Γ mods H H1) : Un g TS0 Γ mods H H1 := h
theorem bndK {g : GG} {ts : TS} {Γ : Nat → Nat} {H : Heap} {q t k n : Nat} {a : AV} {f : Nat → Int32} (hk : k = 0 ∨ k = 1 ∨ k = 3) (hT : HT g ts Γ H) (hq : Γ q = t) (h0 : t ≠ 0) (ht : ts.1 t = .inr (k, n, a)) (hA : AT g k n q f H) : ∀ j : Nat, j < n → avi g Γ a (.int (f j)) := fun j hj => by
  obtain ⟨f2, h1, h2⟩ := h_ints (ts := ts) hk hT (by rw [hq]; exact h0) (by rw [hq]; exact ht)
  rw [(AT_fun hA h1 hj).2]
  exact h2 j hj
/-- as many unlike ones as there are, at the most -/
theorem pig : ∀ (m n : Nat) (F : Nat → Nat), (∀ i, i < n → F i < m) → (∀ i j, i < n → j < n → F i = F j → i = j) → n ≤ m
  | 0, n, F, h1, _ => by
    cases n with
    | zero => exact Nat.le_refl _
    | succ n => exact absurd (h1 0 (Nat.succ_pos _)) (Nat.not_lt_zero _)
  | m + 1, n, F, h1, h2 => by
    cases n with
    | zero => exact Nat.zero_le _
    | succ k =>
      have := pig m k (fun i => if F i = m then F k else F i) (fun i hi => by
        have a1 := h1 i (by omega)
        have a2 := h1 k (by omega)
        have a3 : F k = F i → k = i := fun e => h2 k i (by omega) (by omega) e
        by_cases e : F i = m
        · rw [if_pos e]
          have : F k ≠ m := fun e2 => by have := a3 (e2.trans e.symm); omega
          omega
        · rw [if_neg e]; omega) (fun i j hi hj e => by
        have a1 : F k = F i → k = i := fun e => h2 k i (by omega) (by omega) e
        have a2 : F k = F j → k = j := fun e => h2 k j (by omega) (by omega) e
        have a3 : F i = F j → i = j := fun e => h2 i j (by omega) (by omega) e
        by_cases e1 : F i = m
        · by_cases e2 : F j = m
          · exact a3 (e1.trans e2.symm)
          · rw [if_pos e1, if_neg e2] at e
            have := a2 e; omega
        · by_cases e2 : F j = m
          · rw [if_neg e1, if_pos e2] at e
            have := a1 e.symm; omega
          · rw [if_neg e1, if_neg e2] at e
            exact a3 e)
      omega
/-! contracts that say more of the result -/
def SMX (l : Launch) (g : GG) (ts : TS) (y : MethodName) (c : ByteArray) (n : Nat) (r : Option FieldType) (sp : SPEC) (P : (Nat → Nat) → List Value → Heap → Value → Prop) : Prop :=
  ∀ (Γ : Nat → Nat) (As : List Value), UQ ts Γ → VR g Γ sp.2.1 As → Met l y (WW y c n r) (RM sp.1 0 0) (va_Pc As (SPRE g ts Γ As sp.2.2.2.2.2)) (fun a st o t => SQ g ts Γ sp As a st o t ∧ ∀ v : Value, o = .returned (some v) → P Γ As st.heap v) 0 0 (fun q => Γ q ≠ 0)
theorem SMX_hand {l : Launch} {g : GG} {ts : TS} {y : MethodName} {cc : ByteArray} {nL : Nat} {r : Option FieldType} {sp : SPEC} {P : (Nat → Nat) → List Value → Heap → Value → Prop} {own : String} (ho : y.cls = own) (hy : plainName y.cls = true) (hA : (sp.2.1.map acat).sum ≤ nL)
    (body : ∀ (p : Program) (e : Env) (s : State) (m : MethodId) (below : List Frame) (meth : Method) (c : Code) (Γ : Nat → Nat) (As : List Value) (ls : Array Slot) (Q : State → Prop), UQ ts Γ → VR g Γ sp.2.1 As → MQ below (fun a st o t => SQ g ts Γ sp As a st o t ∧ ∀ v : Value, o = .returned (some v) → P Γ As st.heap v) As.toArray s 0 0 (fun q => Γ q ≠ 0) = Q → CTX p l m meth c cc nL s As.toArray own g (AA Γ s.heap.size) → meth.sig.returnType = r → HI g ts Γ sp.2.2.2.2.1 s s.heap [] → PFT g ts Γ As sp.2.2.2.2.2 s.heap → lv_has ls nL (lv_args 0 As) → W p l e (RM sp.1 0 0) s m As.toArray below meth c s.heap [] 0 0 Q (F0 m 0 ls [])) : SMX l g ts y cc nL r sp P := by
  intro Γ As hU hV
  have hA2 : (lg_sl As).length ≤ nL := by rw [sl_len hV]; exact hA
  refine Met.ofW (cc := cc) (maxL := nL) (ret := r) hy rfl ?_
  intro p e s m args below meth c s₁ B hml hv
  obtain ⟨rfl, hT, hKX, hTB, hPF⟩ := hv
  have hts := atoms_spec (ws := WW y cc nL r) B.pre
  have hl := lv_entry As (n := nL) hA2
  have X : CTX p l m meth c cc nL s As.toArray own g (AA Γ s.heap.size) := ⟨B.exec, B.bytes, hml, by rw [← ho]; exact findClass_of_methodNamed B.named, fun w h => hts w (List.mem_cons_of_mem _ h), hKX, hTB, fun q h => Or.inr h, B.notSynchronized⟩
  rw [lg_entry_eq]
  exact body p e s m below meth c Γ As _ _ hU hV rfl X B.returns ⟨hT, rfl, fun _ _ => rfl, fun _ h => (List.not_mem_nil h).elim, fun q _ => Un1.same rfl⟩ hPF hl
section
variable {p : Program} {l : Launch} {e : Env} {R : Room} {s : State} {m : MethodId} {args : Array Value} {below : List Frame} {meth : Method} {c : Code} {H : Heap} {locs : List Loc} {cells slots : Nat} {Q : State → Prop}
variable {cc : ByteArray} {pc nL : Nat} {ls : Array Slot} {rest : List Value} {own : String} {g : GG} {ts : TS} {Γ : Nat → Nat} {mods : List (Nat × Nat)} {q : Nat}
theorem h_callX (X : CTX p l m meth c cc nL s args own g (AA Γ s.heap.size)) (hI : HI g ts Γ mods s H locs) {idx na ci dd n : Nat} {sp : SPEC} {P : (Nat → Nat) → List Value → Heap → Value → Prop} {y : MethodName} {cb : ByteArray} {r : Option FieldType} {C : String} {T : u_T} {N b : Nat} {As rs vs : List Value} {fs : List AV} (hM : SMX l g ts y cb n r sp P) (hn : n ≤ 21) (hl : LV own idx C y cb n r na) (hci : CLS[ci]? = some (C, T, N)) (hR : dd ≤ R.frames ∧ 40 * dd ≤ R.locals ∧ cells ≤ R.cells ∧ slots ≤ R.slots) (hd : sp.1 + 1 ≤ dd) (hls : ls.size = nL) (hvs : vs = As.reverse ++ .ref b :: rs) (hlen : As.length = na) (hU : UQ ts Γ) (hpf : PFT g ts Γ (.ref b :: As) sp.2.2.2.2.2 H) (hV : VR g Γ sp.2.1 (.ref b :: As)) (hb : Γ b ≠ 0) (ht : ts.1 (Γ b) = .inl (ci, fs)) (hm : ∀ t k, md sp.2.2.2.2.1 t k = true → md mods t k = true) (hroom : (rs.map fun v => v.category).sum ≤ 8) (hdg : decode cc pc = .ok (.invokevirtual idx, 3))
    (kk : ∀ (v : Option Value) (H1 : Heap) (locs1 : List Loc), RO g Γ sp (.ref b :: As) v → HI g ts Γ mods s H1 locs1 → Un g ts Γ sp.2.2.2.2.1 H H1 → (∀ w, v = some w → P Γ (.ref b :: As) H w) → W p l e R s m args below meth c H1 locs1 cells slots Q (F0 m (pc + 3) ls (v.toList ++ rs))) : W p l e R s m args below meth c H locs cells slots Q (F0 m pc ls vs) := by
  have hRm : sp.1 + 1 ≤ R.frames ∧ 8 + (n + 11) + 40 * sp.1 ≤ R.locals := ⟨by omega, by omega⟩
  have hc := hI.1.1 b hb
  unfold cok at hc
  rw [ht] at hc
  obtain ⟨ws, h1, h2⟩ := hc
  have hP : va_P g.1 CLS [(b, .inr (ci, ws))] H := fun j r hr => by
    cases j with
    | zero => cases hr; exact h1
    | succ j => cases hr
  subst hvs
  have hr := va_runV (cells := cells) (slots := slots) (l := l) (e := e) (R := R) (m := m) (below := below) (meth := meth) (locs := locs) (g := F0 m pc ls (As.reverse ++ .ref b :: rs)) (As := As) (rest := rs) ⟨X.1, X.2.1, X.2.2.1, X.2.2.2.1, X.2.2.2.2.1⟩ (hM Γ _ hU hV) (k_cwV X hl hRm) ⟨SPRE.blind, va_recv (q0 := 0) X.2.2.2.2.2.1.1 hP hci rfl, fun U hU hWm => ⟨rfl, s_pre X hI hpf U hU hWm⟩⟩ rfl hlen hls rfl (lv_room hroom) hdg ⟨hR.2.2.1, hR.2.2.2⟩
  intro T hT XX
  obtain ⟨v, st₀, t, T', L, h0, X', hL, e1, e2, ⟨⟨v2, hv, hro, hh, hz, hk, hu⟩, hPP⟩, st⟩ := hr T hT XX
  cases hv
  rw [h0] at hz hk hu hPP
  rw [← e1] at hh hz hk hu
  have hI2 : HI g ts Γ mods s T'.heap (locs ++ L) := by
    refine ⟨hh, hz.trans hI.2.1, fun q hq => (hk q hq).trans (hI.2.2.1 q hq), fun q hq => ?_, fun q hq => (hI.2.2.2.2 q hq).trans ((hu q hq).mono hm)⟩
    rcases List.mem_append.mp hq with h | h
    · exact hI.2.2.2.1 q h
    · exact hL q h
  obtain ⟨t2, a1, b1⟩ := kk v T'.heap (locs ++ L) hro hI2 hu (fun w hw => hPP w (by rw [hw])) T' rfl X'
  exact ⟨t2, st t2 a1, b1⟩
theorem h_retX {P : (Nat → Nat) → List Value → Heap → Value → Prop} (X : CTX p l m meth c cc nL s args own g (AA Γ s.heap.size)) {sp : SPEC} {As : List Value} (hI : HI g ts Γ sp.2.2.2.2.1 s H locs) (hQ : MQ below (fun a st o t => SQ g ts Γ sp As a st o t ∧ ∀ v : Value, o = .returned (some v) → P Γ As st.heap v) args s cells slots (fun q => Γ q ≠ 0) = Q) (hr : meth.sig.returnType = some .boolean) {x : Int32} (h0 : 0 ≤ x.toInt) (h1 : x.toInt ≤ 1) (hro : RO g Γ sp As (some (.int x))) (hP : P Γ As s.heap (.int x)) (hdg : decode cc pc = .ok (.ireturn, 1)) : W p l e R s m args below meth c H locs cells slots Q (F0 m pc ls [.int x]) := by
  subst hQ
  exact W.zret X.1 X.2.1 hr (nar_z h0 h1) (fun t ht _ => ⟨s_end hI hro t ht, fun v hv => by cases hv; exact hP⟩) hI.2.2.2.1 hdg X.2.2.2.2.2.2.2.2
end
/-! a plan's kinds and whom they call -/
def IV2 (g : GG) (Γ : Nat → Nat) (q : Nat) (H : Heap) : Prop := Γ (q + 2) = 32 ∧ Γ (q + 4) = 34 ∧ FE g q 4 3 H (.ref (q + 2)) ∧ FE g q 4 5 H (.ref (q + 4)) ∧ ∃ fk fc, AT g 1 40 (q + 2) fk H ∧ AT g 1 40 (q + 4) fc H ∧ ∀ j : Nat, j < 40 → fk j = 3 ∨ (0 ≤ (fc j).toInt ∧ (fc j).toInt ≤ 6)
theorem FE_kept {g : GG} {q ci k : Nat} {H H1 : Heap} {v : Value} (h : FE g q ci k H v) (e : H1[q]? = H[q]?) : FE g q ci k H1 v := by
  obtain ⟨vs, r, h1, h2⟩ := h
  exact ⟨vs, r, h1.kept e, h2⟩
theorem IV2_un {g : GG} {Γ : Nat → Nat} {mods : List (Nat × Nat)} {H0 H1 : Heap} {q : Nat} (hq : Γ q = 4) (h : IV2 g Γ q H0) (hu : Un g TS0 Γ mods H0 H1) (gd : ∀ q ∈ [(4, 3), (4, 5), (32, 0), (34, 0)], md mods q.1 q.2 = false) : IV2 g Γ q H1 := by
  obtain ⟨b1, b2, b3, b4, fk, fc, b5, b6, b7⟩ := h
  exact ⟨b1, b2, hu.fld hq (by decide) rfl (gd (4, 3) (by decide)) b3, hu.fld hq (by decide) rfl (gd (4, 5) (by decide)) b4, fk, fc, b5.kept (hu.arr b1 (by decide) rfl (gd (32, 0) (by decide))), b6.kept (hu.arr b2 (by decide) rfl (gd (34, 0) (by decide))), b7⟩
theorem IV2_ne {g : GG} {Γ : Nat → Nat} {H0 H1 : Heap} {q x : Nat} (h : IV2 g Γ q H0) (e : ∀ y : Nat, y ≠ x → H1[y]? = H0[y]?) (h0 : q ≠ x) (h1 : q + 2 ≠ x) (h2 : q + 4 ≠ x) : IV2 g Γ q H1 := by
  obtain ⟨b1, b2, b3, b4, fk, fc, b5, b6, b7⟩ := h
  exact ⟨b1, b2, FE_kept b3 (e _ h0), FE_kept b4 (e _ h0), fk, fc, b5.kept (e _ h1), b6.kept (e _ h2), b7⟩
theorem nI_dec {i : Nat} (h : 0 < i) : nI i + Int32.ofInt (-1) = nI (i - 1) := by
  obtain ⟨j, rfl⟩ : ∃ j, i = j + 1 := ⟨i - 1, by omega⟩
  have := nI_pred j
  rw [Int32.sub_eq_add_neg] at this
  exact this
theorem nI_sub1 {i : Nat} (h : 0 < i) : nI i - 1 = nI (i - 1) := by
  obtain ⟨j, rfl⟩ : ∃ j, i = j + 1 := ⟨i - 1, by omega⟩
  exact nI_pred j
theorem h_fe {g : GG} {ts : TS} {Γ : Nat → Nat} {H : Heap} {q ci k : Nat} {fs : List AV} {a : AV} {r : vw_C} (hT : HT g ts Γ H) (hq : Γ q ≠ 0) (ht : ts.1 (Γ q) = .inl (ci, fs)) (hk : fs[k]? = some a) (hr : CLS[ci]? = some r) (hn : k < r.2.2) : ∃ v, avi g Γ a v ∧ FE g q ci k H v := by
  obtain ⟨vs, h1, h2⟩ := h_obj hT hq ht
  obtain ⟨v, h3, h4⟩ := h2.get hk
  exact ⟨v, h4, vs, r, h1, hr, hn, h3⟩
theorem avi_nr {g : GG} {Γ : Nat → Nat} {t : Nat} {v : Value} (h : avi g Γ (vn t) v) : (∃ q, v = .ref q ∧ Γ q = t ∧ Γ q ≠ 0) ∨ v = .null := by
  cases v with
  | ref q =>
    rcases h with ⟨-, h1, h2⟩ | ⟨h, -⟩ | ⟨h, -⟩
    · exact Or.inl ⟨q, rfl, h1, h2⟩
    · cases h
    · cases h
  | null => exact Or.inr rfl
  | int x => cases h.1
  | long x => cases h.1
  | float x => exact absurd h id
  | double x => exact absurd h id
  | retAddr x => exact absurd h id
/-- what a test that came out true says of an argument -/
theorem im_at {g : GG} {Γ : Nat → Nat} {As : List Value} {ims : List (Int × Int × Nat × AV)} {k j lo hi : Nat} {y : Int32} {a : Int × Int × Nat × AV} (him : ∀ q ∈ ims, ∀ x : Int32, (Value.int (nI k)) = .int x → q.1 ≤ x.toInt → x.toInt ≤ q.2.1 → ∃ u, As[q.2.2.1]? = some u ∧ avi g Γ q.2.2.2 u) (hq : a ∈ ims) (h1 : a.1 = 1) (h2 : a.2.1 = 1) (hj : a.2.2.1 = j) (ha : a.2.2.2 = (0, .ofNat lo, .ofNat hi)) (hy : As[j]? = some (.int y)) (hk : k = 1) : ∃ i : Nat, y = nI i ∧ lo ≤ i ∧ i ≤ hi := by
  subst hk
  have e1 : (nI 1).toInt = 1 := by decide
  obtain ⟨u, e2, e3⟩ := him a hq (nI 1) rfl (by rw [h1, e1]; decide) (by rw [h2, e1]; decide)
  rw [hj, hy] at e2
  cases e2
  rw [ha] at e3
  exact avi_nn e3
theorem bool_1 {k : Nat} (h : k ≤ 1) (c : ¬ nI k = 0) : k = 1 := by
  rcases (show k = 0 ∨ k = 1 by omega) with e | e
  · exact absurd (by rw [e]; rfl) c
  · exact e

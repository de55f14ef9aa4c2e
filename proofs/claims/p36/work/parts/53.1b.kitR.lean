/-! the law's rows, with what both sides hold -/
abbrev RLT : Type := Nat × (Nat → Int32) × Nat × Nat
def RLW (q : RLT) : Prop := q.1 ≤ 400 ∧ q.2.2.1 ≤ 10 ∧ q.2.2.2 ≤ 12
abbrev R1c (g : GG) (x0 : Nat) (q : RLT) (H : Heap) : Prop := RC1 g x0 q.1 q.2.1 q.2.2.1 q.2.2.2 H
abbrev R1m (g : GG) (m0 : Nat) (q : RLT) (H : Heap) : Prop := RR1 g m0 q.1 q.2.1 q.2.2.1 q.2.2.2 H
def LGR (p : Program) (l : Launch) (e : Env) (s : State) (m : MethodId) (b : Nat) (below : List Frame) (meth : Method) (c : Code) (g : GG) (x0 m0 o0 i C S : Nat) : Prop := ∀ (Γ : Nat → Nat) (H : Heap) (locs : List Loc) (ls : Array Slot) (cells slots : Nat) (q : RLT), cells ≤ C → slots ≤ S → LWS g x0 m0 o0 s Γ H locs → RLW q → R1c g x0 q H → R1m g m0 q H → lv_has ls 7 (LO b x0 m0 o0 i) → W p l e room_1 s m #[Value.ref b] below meth c H locs cells slots (lw_Z below #[Value.ref b] s) (F0 m 1836 ls [])
/-- feed -/
def fdQ (q : RLT) (p0 p1 p2 p3 p4 : Int32) : RLT := (fdn q.1 (s5 p0 p1 p2 p3 p4), pb5 q.2.1 q.1 p0 p1 p2 p3 p4, q.2.2.1, q.2.2.2)
theorem fdQ_w {q : RLT} {p0 p1 p2 p3 p4 : Int32} (h : RLW q) : RLW (fdQ q p0 p1 p2 p3 p4) := ⟨fdn_le h.1, h.2⟩
/-- end -/
def enQ (q : RLT) (p0 : Int32) : RLT := (ctn q.1 p0, q.2.1, q.2.2.1, q.2.2.2)
theorem ctn_le4 {n : Nat} {x : Int32} (h : n ≤ 400) : ctn n x ≤ 400 := by
  unfold ctn
  split
  · rename_i h2
    obtain ⟨j, hj, e⟩ := nI_of2 (n := n) (nI_toInt (by omega)) h2.1 h2.2
    rw [e, nI_clamp (by omega)]; omega
  · exact h
theorem enQ_w {q : RLT} {p0 : Int32} (h : RLW q) : RLW (enQ q p0) := ⟨ctn_le4 h.1, h.2⟩
/-- valley -/
def vlQ (q : RLT) : RLT := if q.2.2.1 < 10 ∧ rdF q.1 (ub q.2.1) = -1 then (0, q.2.1, q.2.2.1 + 1, q.2.2.2) else q
def vlA (q : RLT) : Int32 := if q.2.2.1 < 10 ∧ rdF q.1 (ub q.2.1) = -1 then nI q.2.2.1 else -1
theorem vlQ_w {q : RLT} (h : RLW q) : RLW (vlQ q) := by
  unfold vlQ
  split
  · rename_i h2
    exact ⟨Nat.zero_le _, h2.1, h.2.2⟩
  · exact h
theorem vlQ_c {g : GG} {x0 : Nat} {q : RLT} {v : Value} {H1 : Heap} (h : (vlN q.1 q.2.2.1 (ub q.2.1) ∧ v = .int (nI q.2.2.1) ∧ RC1 g x0 0 q.2.1 (q.2.2.1 + 1) q.2.2.2 H1) ∨ (¬ vlN q.1 q.2.2.1 (ub q.2.1) ∧ v = .int (-1) ∧ RC1 g x0 q.1 q.2.1 q.2.2.1 q.2.2.2 H1)) : v = .int (vlA q) ∧ R1c g x0 (vlQ q) H1 := by
  rcases h with ⟨h1, h2, h3⟩ | ⟨h1, h2, h3⟩
  · have h1 : q.2.2.1 < 10 ∧ rdF q.1 (ub q.2.1) = -1 := h1
    unfold vlA vlQ
    rw [if_pos h1, if_pos h1]; exact ⟨h2, h3⟩
  · have h1 : ¬ (q.2.2.1 < 10 ∧ rdF q.1 (ub q.2.1) = -1) := h1
    unfold vlA vlQ
    rw [if_neg h1, if_neg h1]; exact ⟨h2, h3⟩
theorem vlQ_m {g : GG} {m0 : Nat} {q : RLT} {v : Value} {H1 : Heap} (h : (vlN q.1 q.2.2.1 (ub q.2.1) ∧ v = .int (nI q.2.2.1) ∧ RR1 g m0 0 q.2.1 (q.2.2.1 + 1) q.2.2.2 H1) ∨ (¬ vlN q.1 q.2.2.1 (ub q.2.1) ∧ v = .int (-1) ∧ RR1 g m0 q.1 q.2.1 q.2.2.1 q.2.2.2 H1)) : v = .int (vlA q) ∧ R1m g m0 (vlQ q) H1 := by
  rcases h with ⟨h1, h2, h3⟩ | ⟨h1, h2, h3⟩
  · have h1 : q.2.2.1 < 10 ∧ rdF q.1 (ub q.2.1) = -1 := h1
    unfold vlA vlQ
    rw [if_pos h1, if_pos h1]; exact ⟨h2, h3⟩
  · have h1 : ¬ (q.2.2.1 < 10 ∧ rdF q.1 (ub q.2.1) = -1) := h1
    unfold vlA vlQ
    rw [if_neg h1, if_neg h1]; exact ⟨h2, h3⟩
/-- plan -/
def plB (q : RLT) (x : Int32) : Prop := ¬ F_X12_isValley q.2.2.1 x = 0 ∧ q.2.2.2 < 12
def plQ (q : RLT) (x : Int32) : RLT := if ¬ F_X12_isValley q.2.2.1 x = 0 ∧ q.2.2.2 < 12 then (q.1, q.2.1, q.2.2.1, q.2.2.2 + 1) else q
def plA (q : RLT) (x : Int32) : Int32 := if ¬ F_X12_isValley q.2.2.1 x = 0 ∧ q.2.2.2 < 12 then nI q.2.2.2 else -1
theorem plB_iff {q : RLT} {x : Int32} (h : RLW q) : plN q.2.2.1 q.2.2.2 x ↔ (¬ F_X12_isValley q.2.2.1 x = 0 ∧ q.2.2.2 < 12) := by
  have h10 : q.2.2.1 ≤ 10 := h.2.1
  constructor
  · rintro ⟨⟨i, hi, rfl⟩, h2⟩
    exact ⟨by rw [rv_ok (by omega) hi]; decide, h2⟩
  · intro ⟨h1, h2⟩
    obtain ⟨a, b⟩ := rv_at (n := q.2.2.1) (by omega) h1
    exact ⟨⟨tN x, b, a⟩, h2⟩
theorem plQ_w {q : RLT} {x : Int32} (h : RLW q) : RLW (plQ q x) := by
  unfold plQ
  split
  · rename_i h2
    exact ⟨h.1, h.2.1, h2.2⟩
  · exact h
theorem plQ_c {g : GG} {x0 : Nat} {q : RLT} {x : Int32} {v : Value} {H1 : Heap} (hq : RLW q) (h : (plN q.2.2.1 q.2.2.2 x ∧ v = .int (nI q.2.2.2) ∧ RC1 g x0 q.1 q.2.1 q.2.2.1 (q.2.2.2 + 1) H1) ∨ (¬ plN q.2.2.1 q.2.2.2 x ∧ v = .int (-1) ∧ RC1 g x0 q.1 q.2.1 q.2.2.1 q.2.2.2 H1)) : v = .int (plA q x) ∧ R1c g x0 (plQ q x) H1 := by
  rw [plB_iff hq] at h
  unfold plA plQ
  rcases h with ⟨h1, h2, h3⟩ | ⟨h1, h2, h3⟩
  · rw [if_pos h1, if_pos h1]; exact ⟨h2, h3⟩
  · rw [if_neg h1, if_neg h1]; exact ⟨h2, h3⟩
theorem plQ_m {g : GG} {m0 : Nat} {q : RLT} {x : Int32} {v : Value} {H1 : Heap} (hq : RLW q) (h : (plN q.2.2.1 q.2.2.2 x ∧ v = .int (nI q.2.2.2) ∧ RR1 g m0 q.1 q.2.1 q.2.2.1 (q.2.2.2 + 1) H1) ∨ (¬ plN q.2.2.1 q.2.2.2 x ∧ v = .int (-1) ∧ RR1 g m0 q.1 q.2.1 q.2.2.1 q.2.2.2 H1)) : v = .int (plA q x) ∧ R1m g m0 (plQ q x) H1 := by
  rw [plB_iff hq] at h
  unfold plA plQ
  rcases h with ⟨h1, h2, h3⟩ | ⟨h1, h2, h3⟩
  · rw [if_pos h1, if_pos h1]; exact ⟨h2, h3⟩
  · rw [if_neg h1, if_neg h1]; exact ⟨h2, h3⟩
section
variable {p : Program} {l : Launch} {e : Env} {s : State} {m : MethodId} {below : List Frame} {meth : Method} {c : Code} {H : Heap} {locs : List Loc} {cells slots : Nat} {Q : State → Prop}
variable {pc : Nat} {ls : Array Slot} {rest stk st0 : List Value} {g : GG} {Γ : Nat → Nat} {x0 m0 o0 b L i : Nat} {xs : Nat → Int32} {args : Array Value}
theorem lwr_keep {H1 : Heap} {locs1 : List Loc} {mods : List (Nat × Nat)} (h : LWS g x0 m0 o0 s Γ H locs) (hF : FR g (AL s) s Γ H1 locs1) (hk : ∀ q : Nat, Γ q = 0 → H1[q]? = H[q]?) (hu : Un g TS0 Γ mods H H1) (hm : lwm mods = true) : LWS g x0 m0 o0 s Γ H1 locs1 := h.keep hF hk hu hm
/-- a call of one of the two -/
theorem law_callU (X : CTX p l m meth c cL_law 7 s args RL g (AL s)) (hS : LWS g x0 m0 o0 s Γ H locs) {idx na maxL d ci N t : Nat} {sp : SPEC} {y : MethodName} {cb : ByteArray} {r : Option FieldType} {C : String} {T : u_T} {As rs : List Value} {fs : List AV} (hM : SM l g TS0 y cb maxL r sp) (hl : LV RL idx C y cb maxL r na) (hci : CLS[ci]? = some (C, T, N)) (hd : Γ d = t) (h0 : t ≠ 0) (ht : TS0.1 t = .inl (ci, fs)) (hV : VR g Γ sp.2.1 (.ref d :: As)) (hpf : sp.2.2.2.2.2 = []) (hlen : As.length = na) (hls : ls.size = 7) (hstk : stk = As.reverse ++ .ref d :: rs) (hroom : (rs.map fun v => v.category).sum ≤ 8) (hRm : sp.1 + 1 ≤ 2048 ∧ 8 + (maxL + 11) + 40 * sp.1 ≤ 84000) (hc : cells ≤ 601024 ∧ slots ≤ 7293034) (hdg : decode cL_law pc = .ok (.invokevirtual idx, 3)) (hm : lwm sp.2.2.2.2.1 = true) (hr : Nat.beq sp.2.2.1.1 0 = true)
    (kk : ∀ (x : Int32) (H1 : Heap) (locs1 : List Loc), Un g TS0 Γ sp.2.2.2.2.1 H H1 → LWS g x0 m0 o0 s Γ H1 locs1 → W p l e room_1 s m args below meth c H1 locs1 cells slots Q (F0 m (pc + 3) ls (.int x :: rs))) : W p l e room_1 s m args below meth c H locs cells slots Q (F0 m pc ls stk) := by
  refine f_callV (ci := ci) X hS.1 hM hl hci (by rw [hd]; exact h0) ((congrArg TS0.1 hd).trans ht) hV hpf hlen hls hstk hroom hRm hc hdg fun w H1 locs1 hro hF1 hz1 hk1 hun => ?_
  obtain ⟨w8, rfl, hw8, -⟩ := RO_some (Bool.eq_false_iff.mpr fun e7 => absurd ((Nat.eq_of_beq_eq_true e7).symm.trans (Nat.eq_of_beq_eq_true hr)) (by decide)) hro
  obtain ⟨x, rfl, -⟩ := avi_int hr hw8
  exact kk x H1 locs1 hun (hS.keep hF1 hk1 hun hm)
/-- a call of one of the two, told exactly -/
theorem law_callE (X : CTX p l m meth c cL_law 7 s args RL g (AL s)) (hS : LWS g x0 m0 o0 s Γ H locs) {idx na maxL d ci N t : Nat} {sp : SPEC} {y : MethodName} {cb : ByteArray} {r : Option FieldType} {C : String} {T : u_T} {As rs : List Value} {fs : List AV} {Pre : Heap → Prop} {Post : Heap → Value → Heap → Prop} (hM : EX l g y cb maxL r sp Γ (.ref d :: As) Pre Post) (hl : LV RL idx C y cb maxL r na) (hci : CLS[ci]? = some (C, T, N)) (hd : Γ d = t) (h0 : t ≠ 0) (ht : TS0.1 t = .inl (ci, fs)) (hPre : Pre H) (hlen : As.length = na) (hls : ls.size = 7) (hstk : stk = As.reverse ++ .ref d :: rs) (hroom : (rs.map fun v => v.category).sum ≤ 8) (hRm : sp.1 + 1 ≤ 2048 ∧ 8 + (maxL + 11) + 40 * sp.1 ≤ 84000) (hc : cells ≤ 601024 ∧ slots ≤ 7293034) (hdg : decode cL_law pc = .ok (.invokevirtual idx, 3)) (hm : lwm sp.2.2.2.2.1 = true) (hr : Nat.beq sp.2.2.1.1 0 = true)
    (kk : ∀ (x : Int32) (H1 : Heap) (locs1 : List Loc), Post H (.int x) H1 → Un g TS0 Γ sp.2.2.2.2.1 H H1 → LWS g x0 m0 o0 s Γ H1 locs1 → W p l e room_1 s m args below meth c H1 locs1 cells slots Q (F0 m (pc + 3) ls (.int x :: rs))) : W p l e room_1 s m args below meth c H locs cells slots Q (F0 m pc ls stk) := by
  subst hstk
  intro T0 hT X0
  obtain ⟨v, st₀, t1, T', L1, h0', X', hL, e1, e2, ⟨⟨v2, hv, hro, hh, hz, hk, hu⟩, hP⟩, st⟩ := va_runV (e := e) (below := below) (locs := locs) (rest := rs) ⟨X.1, X.2.1, X.2.2.1, X.2.2.2.1, X.2.2.2.2.1⟩ hM (k_cwV X hl hRm) ⟨EX.blind, f_recv X hS.1 (by rw [hd]; exact h0) ((congrArg TS0.1 hd).trans ht) hci, fun U hU hWm => ⟨rfl, f_pre X hS.1 U hU hWm rfl, by rw [hU]; exact hPre⟩⟩ rfl hlen hls rfl (lv_room hroom) hdg hc T0 hT X0
  cases hv
  rw [h0'] at hz hk hu hP
  rw [← e1] at hh hz hk hu hP
  obtain ⟨w8, rfl, hw8, -⟩ := RO_some (Bool.eq_false_iff.mpr fun e7 => absurd ((Nat.eq_of_beq_eq_true e7).symm.trans (Nat.eq_of_beq_eq_true hr)) (by decide)) hro
  obtain ⟨x, rfl, -⟩ := avi_int hr hw8
  have hF := hS.1
  have hS1 : va_S (AL s) s.heap T'.heap (locs ++ L1) := by
    refine ⟨by rw [hz]; exact hF.2.2.2.1, fun q h1 h2 => ?_, fun l hl => ?_⟩
    · have h3 : Γ q = 0 := Classical.byContradiction fun z => h2 (hF.2.2.1 q z)
      exact (hk q h3).trans (hF.2.2.2.2.1 q h1 h2)
    · rcases List.mem_append.mp hl with h | h
      · exact hF.2.2.2.2.2 l h
      · exact hF.2.2.1 _ (hL l h)
  obtain ⟨t2, a1, b1⟩ := kk x T'.heap (locs ++ L1) (hP _ rfl) hu (hS.keep ⟨hh, hF.2.1, hF.2.2.1, hS1⟩ hk hu hm) T' rfl X'
  exact ⟨t2, st t2 a1, b1⟩
/-- the call of one that makes cells, told exactly -/
theorem law_gretE {a : Array Value} {mc ms : Nat} {Post : Heap → Value → Heap → Prop} (hr : va_Run p l e room_1 s m args below meth c H locs cells slots mc ms (F0 m pc ls st0) rest (fun st o t => GQ g x0 m0 Γ a st o t ∧ ∀ v : Value, o = .returned (some v) → Post st.heap v t.heap) (AA Γ H.size)) (X : CTX p l m meth c cL_law 7 s args RL g (AL s)) (hS : LWS g x0 m0 o0 s Γ H locs)
    (kk : ∀ (x : Int32) (Γ1 : Nat → Nat) (H1 : Heap) (locs1 : List Loc), Post H (.int x) H1 → LWS g x0 m0 o0 s Γ1 H1 locs1 → W p l e room_1 s m args below meth c H1 locs1 (cells + mc) (slots + ms) Q (F0 m (pc + 3) ls (.int x :: rest))) : W p l e room_1 s m args below meth c H locs cells slots Q (F0 m pc ls st0) := by
  intro T hT X0
  obtain ⟨v, st₀, t, T', L, h0, X', hL, e1, e2, ⟨⟨r, Γ', hv, hh, hu, ha, hLF, hFr⟩, hP⟩, st⟩ := hr T hT X0
  cases hv
  unfold va_F at hFr
  rw [h0] at ha hFr hP
  rw [← e1] at hh hLF hFr hP
  obtain ⟨hFS, hLS, ho1, ho2, hO⟩ := hS
  have hlt := hO.lt
  have hsz := hFS.2.2.2.1
  have hno : ¬ AA Γ H.size o0 := fun h => h.elim (fun h => h ho1) (fun h => absurd hlt (Nat.not_lt.mpr h))
  have hA : ∀ q : Nat, AA Γ H.size q → AL s q := fun q h => h.elim (hFS.2.2.1 q) (fun h => Nat.le_trans hsz h)
  have hS' : va_S (AL s) s.heap T'.heap (locs ++ L) := by
    refine ⟨Nat.le_trans hsz hFr.1, fun q h1 h2 => ?_, fun q hq => ?_⟩
    · exact (hFr.2 q (Nat.lt_of_lt_of_le h1 hsz) fun h => h2 (hA q h)).trans (hFS.2.2.2.2.1 q h1 h2)
    · rcases List.mem_append.mp hq with h | h
      · exact hFS.2.2.2.2.2 q h
      · exact hA _ (hL q h)
  have hN : LWS g x0 m0 o0 s Γ' T'.heap (locs ++ L) := ⟨⟨hh, hu, fun q hq => hA q (ha q hq), hS'⟩, hLF, Classical.byContradiction fun h => hno (ha o0 h), ho2, hO.kept (hFr.2 o0 hlt hno)⟩
  obtain ⟨t2, a1, b1⟩ := kk r Γ' T'.heap (locs ++ L) (hP _ rfl) hN T' rfl X'
  exact ⟨t2, st t2 a1, b1⟩
theorem law_epre (X : CTX p l m meth c cL_law 7 s args RL g (AL s)) (hS : LWS g x0 m0 o0 s Γ H locs) {As : List Value} {Pre : Heap → Prop} (hP : Pre H) (U : State) (hU : U.heap = H) (hW : s.WarmedH U.vm) : GPRE g x0 m0 Γ H.size As U ∧ Pre U.heap := ⟨law_gpre X hS U hU hW, by rw [hU]; exact hP⟩
theorem law_opreU (X : CTX p l m meth c cL_law 7 s args RL g (AL s)) (hTh : THR (AL s) s s.heap) (hS : LWS g x0 m0 o0 s Γ H locs) (U : State) (hU : U.heap = H) (hW : s.WarmedH U.vm) : OPREU g x0 m0 o0 Γ H H.size U := by
  have h := law_opre X hTh hS U hU hW
  exact ⟨h.1, h.2.1, h.2.2.1, h.2.2.2.1, by rw [hU]; exact ⟨hS.2.1.1, hS.2.1, fun q _ => Un1.same rfl⟩, h.2.2.2.2.2.1, h.2.2.2.2.2.2⟩
/-- the same, by the contract -/
theorem law_gcallE (X : CTX p l m meth c cL_law 7 s args RL g (AL s)) (hS : LWS g x0 m0 o0 s Γ H locs) {idx na maxL d ci N t dd mc ms : Nat} {y : MethodName} {cb : ByteArray} {C : String} {T : u_T} {As rs : List Value} {fs : List AV} {Pre : Heap → Prop} {Post : Heap → Value → Heap → Prop} (hM : EG l g y cb maxL dd mc ms x0 m0 Γ (.ref d :: As) Pre Post) (hl : LV RL idx C y cb maxL (some .int) na) (hci : CLS[ci]? = some (C, T, N)) (hd : Γ d = t) (h0 : t ≠ 0) (ht : TS0.1 t = .inl (ci, fs)) (hPre : Pre H) (hlen : As.length = na) (hls : ls.size = 7) (hstk : stk = As.reverse ++ .ref d :: rs) (hroom : (rs.map fun v => v.category).sum ≤ 8) (hRm : dd + 1 ≤ 2048 ∧ 8 + (maxL + 11) + 40 * dd ≤ 84000) (hc : cells + mc ≤ 601024 ∧ slots + ms ≤ 7293034) (hdg : decode cL_law pc = .ok (.invokevirtual idx, 3))
    (kk : ∀ (x : Int32) (Γ1 : Nat → Nat) (H1 : Heap) (locs1 : List Loc), Post H (.int x) H1 → LWS g x0 m0 o0 s Γ1 H1 locs1 → W p l e room_1 s m args below meth c H1 locs1 (cells + mc) (slots + ms) Q (F0 m (pc + 3) ls (.int x :: rs))) : W p l e room_1 s m args below meth c H locs cells slots Q (F0 m pc ls stk) := by
  subst hstk
  exact law_gretE (Post := Post) (va_runV (rest := rs) ⟨X.1, X.2.1, X.2.2.1, X.2.2.2.1, X.2.2.2.2.1⟩ (hM H.size) (k_cwV X hl hRm) ⟨EG.blind, f_recv X hS.1 (by rw [hd]; exact h0) ((congrArg TS0.1 hd).trans ht) hci, fun U hU hW => ⟨rfl, law_epre X hS hPre U hU hW⟩⟩ rfl hlen hls rfl (lv_room hroom) hdg hc) X hS kk
/-- the law's line's return -/
theorem law_lretU {a : Array Value} {P : Array Value → State → Outcome → State → Prop} {mc ms : Nat} (hP : ∀ (a : Array Value) (st : State) (o : Outcome) (t : State), P a st o t → ∃ r : Int32, o = .returned (some (.int r)) ∧ LBU g x0 m0 Γ H t ∧ ORW g o0 t.heap ∧ va_F (AO Γ o0 H.size) st t) (hr : va_Run p l e room_1 s m args below meth c H locs cells slots mc ms (F0 m pc ls st0) rest (P a) (AO Γ o0 H.size)) (hS : LWS g x0 m0 o0 s Γ H locs)
    (kk : ∀ (r : Int32) (H1 : Heap) (locs1 : List Loc), Un g TS0 Γ [] H H1 → LWS g x0 m0 o0 s Γ H1 locs1 → W p l e room_1 s m args below meth c H1 locs1 (cells + mc) (slots + ms) Q (F0 m (pc + 3) ls (.int r :: rest))) : W p l e room_1 s m args below meth c H locs cells slots Q (F0 m pc ls st0) := by
  intro T hT X0
  obtain ⟨v, st₀, t, T', L, h0, X', hL, e1, e2, hP9, st⟩ := hr T hT X0
  obtain ⟨r, hv, ⟨hh, hx1, hLF, hun⟩, hO9, hFr⟩ := hP _ _ _ _ hP9
  cases hv
  unfold va_F at hFr
  rw [h0] at hFr
  rw [← e1] at hh hLF hFr hO9 hun
  obtain ⟨hFS, hLS, ho1, ho2, hO⟩ := hS
  have hsz := hFS.2.2.2.1
  have hA : ∀ q : Nat, AO Γ o0 H.size q → AL s q := fun q h => h.elim (fun h => h.elim (hFS.2.2.1 q) (fun h => Nat.le_trans hsz h)) (fun h => by subst h; exact ho2)
  have hS' : va_S (AL s) s.heap T'.heap (locs ++ L) := by
    refine ⟨Nat.le_trans hsz hFr.1, fun q h1 h2 => ?_, fun q hq => ?_⟩
    · exact (hFr.2 q (Nat.lt_of_lt_of_le h1 hsz) fun h => h2 (hA q h)).trans (hFS.2.2.2.2.1 q h1 h2)
    · rcases List.mem_append.mp hq with h | h
      · exact hFS.2.2.2.2.2 q h
      · exact hA _ (hL q h)
  obtain ⟨t2, a1, b1⟩ := kk r T'.heap (locs ++ L) hun ⟨⟨hh, hFS.2.1, hFS.2.2.1, hS'⟩, hLF, ho1, ho2, hO9⟩ T' rfl X'
  exact ⟨t2, st t2 a1, b1⟩
/-- ways of one of the two: what it answers -/
theorem law_wretU {a : Array Value} {P : Array Value → State → Outcome → State → Prop} {sp : SPEC} {As : List Value} {w : Value} (hP : ∀ (a : Array Value) (st : State) (o : Outcome) (t : State), P a st o t → SQ g TS0 Γ sp As a st o t ∧ o = .returned (some w) ∧ (Un g TS0 Γ sp.2.2.2.2.1 st.heap t.heap → LF g x0 m0 Γ st.heap → LF g x0 m0 Γ t.heap)) (hr : va_Run p l e room_1 s m args below meth c H locs cells slots 0 0 (F0 m pc ls st0) rest (P a) (fun q => Γ q ≠ 0)) (hS : LWS g x0 m0 o0 s Γ H locs)
    (kk : ∀ (H1 : Heap) (locs1 : List Loc), Un g TS0 Γ sp.2.2.2.2.1 H H1 → LWS g x0 m0 o0 s Γ H1 locs1 → W p l e room_1 s m args below meth c H1 locs1 cells slots Q (F0 m (pc + 3) ls (w :: rest))) : W p l e room_1 s m args below meth c H locs cells slots Q (F0 m pc ls st0) := by
  intro T hT X0
  obtain ⟨v, st₀, t, T', L, h0, X', hL, e1, e2, hP9, st⟩ := hr T hT X0
  obtain ⟨⟨v2, hv, hro, hh, hz, hk, hu⟩, hw, hLF⟩ := hP _ _ _ _ hP9
  cases hw
  rw [h0] at hz hk hu hLF
  rw [← e1] at hh hz hk hu hLF
  obtain ⟨hFS, hLS, ho1, ho2, hO⟩ := hS
  have hS' : va_S (AL s) s.heap T'.heap (locs ++ L) := by
    refine ⟨by rw [hz]; exact hFS.2.2.2.1, fun q h1 h2 => ?_, fun q hq => ?_⟩
    · have h3 : Γ q = 0 := Classical.byContradiction fun z => h2 (hFS.2.2.1 q z)
      exact (hk q h3).trans (hFS.2.2.2.2.1 q h1 h2)
    · rcases List.mem_append.mp hq with h | h
      · exact hFS.2.2.2.2.2 q h
      · exact hFS.2.2.1 _ (hL q h)
  obtain ⟨t2, a1, b1⟩ := kk T'.heap (locs ++ L) hu ⟨⟨hh, hFS.2.1, hFS.2.2.1, hS'⟩, hLF hu hLS, ho1, ho2, hO.kept (hk o0 ho1)⟩ T' rfl X'
  exact ⟨t2, st t2 a1, b1⟩
end

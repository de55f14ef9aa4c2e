/-! the law's rows for what line answers -/
section
variable {g : GG} {o0 : Nat} {H H1 : Heap} {o : Option Int32} {r : Int32}
theorem LNR.kept (h : LNR g o0 o r H) (he : H1[o0]? = H[o0]?) : LNR g o0 o r H1 := by
  rcases h with h | ⟨x, e1, e2, f, hf, e3⟩
  · exact Or.inl h
  · exact Or.inr ⟨x, e1, e2, f, hf.kept he, e3⟩
theorem LNR.thr (h : LNR g o0 o r H) : r = lnT o := by
  rcases h with ⟨rfl, rfl⟩ | ⟨x, rfl, rfl, -⟩
  · rfl
  · rfl
theorem LNR.out (h : LNR g o0 o r H) (e : lnT o = 0) : ∃ f : Nat → Int64, va_at g.1 CLS (o0, .inl (g.2.1 2, (1, .inr (.inl f)))) H ∧ f 0 = (o.getD 0).toInt64 := by
  rcases h with ⟨rfl, -⟩ | ⟨x, rfl, -, f, hf, e3⟩
  · exact absurd (show (1 : Int32) = 0 from e) (by decide)
  · exact ⟨f, hf, e3⟩
end
section
variable {p : Program} {l : Launch} {e : Env} {s : State} {m : MethodId} {below : List Frame} {meth : Method} {c : Code} {H : Heap} {locs : List Loc} {cells slots : Nat} {Q : State → Prop}
variable {pc : Nat} {ls : Array Slot} {rest stk st0 : List Value} {g : GG} {Γ : Nat → Nat} {x0 m0 o0 b L i : Nat} {xs : Nat → Int32} {args : Array Value}
/-- line: what it answers -/
theorem law_lretP {a : Array Value} {oo : Option Int32} {P : Array Value → State → Outcome → State → Prop} {mc ms : Nat} (hP : ∀ (a : Array Value) (st : State) (o : Outcome) (t : State), P a st o t → ∃ r : Int32, o = .returned (some (.int r)) ∧ LBU g x0 m0 Γ H t ∧ ORW g o0 t.heap ∧ va_F (AO Γ o0 H.size) st t ∧ LNR g o0 oo r t.heap) (hr : va_Run p l e room_1 s m args below meth c H locs cells slots mc ms (F0 m pc ls st0) rest (P a) (AO Γ o0 H.size)) (hS : LWS g x0 m0 o0 s Γ H locs)
    (kk : ∀ (r : Int32) (H1 : Heap) (locs1 : List Loc), Un g TS0 Γ [] H H1 → LWS g x0 m0 o0 s Γ H1 locs1 → LNR g o0 oo r H1 → W p l e room_1 s m args below meth c H1 locs1 (cells + mc) (slots + ms) Q (F0 m (pc + 3) ls (.int r :: rest))) : W p l e room_1 s m args below meth c H locs cells slots Q (F0 m pc ls st0) := by
  intro T hT X0
  obtain ⟨v, st₀, t, T', L, h0, X', hL, e1, e2, hP9, st⟩ := hr T hT X0
  obtain ⟨r, hv, ⟨hh, hx1, hLF, hun⟩, hO9, hFr, hln⟩ := hP _ _ _ _ hP9
  cases hv
  unfold va_F at hFr
  rw [h0] at hFr
  rw [← e1] at hh hLF hFr hO9 hun hln
  obtain ⟨hFS, hLS, ho1, ho2, hO⟩ := hS
  have hsz := hFS.2.2.2.1
  have hA : ∀ q : Nat, AO Γ o0 H.size q → AL s q := fun q h => h.elim (fun h => h.elim (hFS.2.2.1 q) (fun h => Nat.le_trans hsz h)) (fun h => by subst h; exact ho2)
  have hS' : va_S (AL s) s.heap T'.heap (locs ++ L) := by
    refine ⟨Nat.le_trans hsz hFr.1, fun q h1 h2 => ?_, fun q hq => ?_⟩
    · exact (hFr.2 q (Nat.lt_of_lt_of_le h1 hsz) fun h => h2 (hA q h)).trans (hFS.2.2.2.2.1 q h1 h2)
    · rcases List.mem_append.mp hq with h | h
      · exact hFS.2.2.2.2.2 q h
      · exact hA _ (hL q h)
  obtain ⟨t2, a1, b1⟩ := kk r T'.heap (locs ++ L) hun ⟨⟨hh, hFS.2.1, hFS.2.2.1, hS'⟩, hLF, ho1, ho2, hO9⟩ hln T' rfl X'
  exact ⟨t2, st t2 a1, b1⟩
/-- an exact call, and what it leaves -/
theorem law_callEK (X : CTX p l m meth c cL_law 7 s args RL g (AL s)) (hS : LWS g x0 m0 o0 s Γ H locs) {idx na maxL d ci N t : Nat} {sp : SPEC} {y : MethodName} {cb : ByteArray} {r : Option FieldType} {C : String} {T : u_T} {As rs : List Value} {fs : List AV} {Pre : Heap → Prop} {Post : Heap → Value → Heap → Prop} (hM : EX l g y cb maxL r sp Γ (.ref d :: As) Pre Post) (hl : LV RL idx C y cb maxL r na) (hci : CLS[ci]? = some (C, T, N)) (hd : Γ d = t) (h0 : t ≠ 0) (ht : TS0.1 t = .inl (ci, fs)) (hPre : Pre H) (hlen : As.length = na) (hls : ls.size = 7) (hstk : stk = As.reverse ++ .ref d :: rs) (hroom : (rs.map fun v => v.category).sum ≤ 8) (hRm : sp.1 + 1 ≤ 2048 ∧ 8 + (maxL + 11) + 40 * sp.1 ≤ 84000) (hc : cells ≤ 601024 ∧ slots ≤ 7293034) (hdg : decode cL_law pc = .ok (.invokevirtual idx, 3)) (hm : lwm sp.2.2.2.2.1 = true) (hr : Nat.beq sp.2.2.1.1 0 = true)
    (kk : ∀ (x : Int32) (H1 : Heap) (locs1 : List Loc), Post H (.int x) H1 → (∀ q : Nat, Γ q = 0 → H1[q]? = H[q]?) → Un g TS0 Γ sp.2.2.2.2.1 H H1 → LWS g x0 m0 o0 s Γ H1 locs1 → W p l e room_1 s m args below meth c H1 locs1 cells slots Q (F0 m (pc + 3) ls (.int x :: rs))) : W p l e room_1 s m args below meth c H locs cells slots Q (F0 m pc ls stk) := by
  subst hstk
  intro T0 hT X0
  obtain ⟨v, st₀, t1, T', L1, h0', X', hL, e1, e2, ⟨⟨v2, hv, hro, hh, hz, hk, hu⟩, hP⟩, st⟩ := va_runV (e := e) (below := below) (locs := locs) (rest := rs) ⟨X.1, X.2.1, X.2.2.1, X.2.2.2.1, X.2.2.2.2.1⟩ hM (k_cwV X hl hRm) ⟨EX.blind, f_recv X hS.1 (by rw [hd]; exact h0) ((congrArg TS0.1 hd).trans ht) hci, fun U hU hWm => ⟨rfl, f_pre X hS.1 U hU hWm rfl, by rw [hU]; exact hPre⟩⟩ rfl hlen hls rfl (lv_room hroom) hdg hc T0 hT X0
  cases hv
  rw [h0'] at hz hk hu hP
  rw [← e1] at hh hz hk hu hP
  obtain ⟨w8, rfl, hw8, -⟩ := RO_some (Bool.eq_false_iff.mpr fun e7 => absurd ((Nat.eq_of_beq_eq_true e7).symm.trans (Nat.eq_of_beq_eq_true hr)) (by decide)) hro
  obtain ⟨x, rfl, -⟩ := avi_int hr hw8
  have hF := hS.1
  have hS1 : va_S (AL s) s.heap T'.heap (locs ++ L1) := by
    refine ⟨by rw [hz]; exact hF.2.2.2.1, fun q h1 h2 => ?_, fun l hl => ?_⟩
    · have h3 : Γ q = 0 := Classical.byContradiction fun z => h2 (hF.2.2.1 q z)
      exact (hk q h3).trans (hF.2.2.2.2.1 q h1 h2)
    · rcases List.mem_append.mp hl with h | h
      · exact hF.2.2.2.2.2 l h
      · exact hF.2.2.1 _ (hL l h)
  obtain ⟨t2, a1, b1⟩ := kk x T'.heap (locs ++ L1) (hP _ rfl) hk hu (hS.keep ⟨hh, hF.2.1, hF.2.2.1, hS1⟩ hk hu hm) T' rfl X'
  exact ⟨t2, st t2 a1, b1⟩
end

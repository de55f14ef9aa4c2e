theorem av_ref {g : GG} {Γ : Nat → Nat} {q t : Nat} (h : Γ q = t) (h0 : t ≠ 0) : avi g Γ (vr t) (.ref q) := Or.inl ⟨Or.inl rfl, h, by rw [h]; exact h0⟩
theorem va_Dn {A : Nat → Prop} : va_D A [] := ⟨fun i j p q h => by simp at h, fun k q h => by simp at h⟩
theorem lsp0 (r : Nat) : (lsp r).1 ≤ (0 : Int32).toInt ∧ (0 : Int32).toInt ≤ (lsp r).2 := by unfold lsp; split <;> decide
/-- a contract of the law's frame: new cells, a larger tag map -/
def GPRE (g : GG) (x0 m0 : Nat) (Γ : Nat → Nat) (sz : Nat) (As : List Value) : State → Prop := fun U => U.heap.size = sz ∧ SPRE g TS0 Γ As [] U ∧ LF g x0 m0 Γ U.heap
def GQ (g : GG) (x0 m0 : Nat) (Γ : Nat → Nat) : Array Value → State → Outcome → State → Prop := fun _ st o t => ∃ (r : Int32) (Γ' : Nat → Nat), o = .returned (some (.int r)) ∧ HT g TS0 Γ' t.heap ∧ UQ TS0 Γ' ∧ (∀ x : Nat, Γ' x ≠ 0 → AA Γ st.heap.size x) ∧ LF g x0 m0 Γ' t.heap ∧ va_F (AA Γ st.heap.size) st t
def GM (l : Launch) (g : GG) (y : MethodName) (c : ByteArray) (n d mc ms x0 m0 : Nat) (As : List Value) : Prop := ∀ (Γ : Nat → Nat) (sz : Nat), UQ TS0 Γ → Met l y (WW y c n (some .int)) (RM d mc ms) (va_Pc As (GPRE g x0 m0 Γ sz As)) (GQ g x0 m0 Γ) mc ms (AA Γ sz)
theorem GPRE.blind {g : GG} {x0 m0 sz : Nat} {Γ : Nat → Nat} {As Bs : List Value} : FrameBlind (va_Pc As (GPRE g x0 m0 Γ sz Bs)) := by
  intro a U f mk q
  obtain ⟨q0, q1, q2, q3⟩ := q
  have h := SPRE.blind (g := g) (ts := TS0) (Γ := Γ) (As := As) (Bs := Bs) (pf := []) a U f mk ⟨q0, q2⟩
  exact ⟨q0, q1, h.2, q3⟩
theorem GM_of {l : Launch} {g : GG} {y : MethodName} {cc : ByteArray} {nL d mc ms x0 m0 : Nat} {As : List Value} {own : String} (ho : y.cls = own) (hy : plainName y.cls = true) (hA : (lg_sl As).length ≤ nL)
    (body : ∀ (p : Program) (e : Env) (s : State) (m : MethodId) (below : List Frame) (meth : Method) (c : Code) (Γ0 : Nat → Nat) (ls : Array Slot) (args : Array Value) (Q : State → Prop), MQ below (GQ g x0 m0 Γ0) args s mc ms (AA Γ0 s.heap.size) = Q → CTX p l m meth c cc nL s args own g (AA Γ0 s.heap.size) → meth.sig.returnType = some .int → FR g (AA Γ0 s.heap.size) s Γ0 s.heap [] → LF g x0 m0 Γ0 s.heap → lv_has ls nL (lv_args 0 As) → W p l e (RM d mc ms) s m args below meth c s.heap [] 0 0 Q (F0 m 0 ls [])) : GM l g y cc nL d mc ms x0 m0 As := by
  intro Γ sz hU
  refine Met.ofW (cc := cc) (maxL := nL) (ret := some .int) hy rfl ?_
  intro p e s m args below meth c s₁ B hml hv
  obtain ⟨rfl, rfl, ⟨hT, hK, hTB, -⟩, hL⟩ := hv
  have hts := atoms_spec (ws := WW y cc nL (some .int)) B.pre
  have hl := lv_entry As (n := nL) hA
  rw [lg_entry_eq]
  exact body p e s m below meth c Γ _ _ _ rfl ⟨B.exec, B.bytes, hml, by rw [← ho]; exact findClass_of_methodNamed B.named, fun w h => hts w (List.mem_cons_of_mem _ h), hK, hTB, fun q h => Or.inr h, B.notSynchronized⟩ B.returns ⟨hT, hU, fun q h => Or.inl h, va_S.rf⟩ hL hl
section
variable {p : Program} {l : Launch} {e : Env} {R : Room} {s : State} {m : MethodId} {args : Array Value} {below : List Frame} {meth : Method} {c : Code} {H : Heap} {locs : List Loc} {cells slots mc ms : Nat} {Q : State → Prop}
variable {cc : ByteArray} {pc nL : Nat} {ls : Array Slot} {own : String} {g : GG} {Γ Γ0 : Nat → Nat} {x0 m0 : Nat}
theorem g_i (X : CTX p l m meth c cc nL s args own g (AA Γ0 s.heap.size)) (hQ : MQ below (GQ g x0 m0 Γ0) args s mc ms (AA Γ0 s.heap.size) = Q) (hr : meth.sig.returnType = some .int) (hF : FR g (AA Γ0 s.heap.size) s Γ H locs) (hL : LF g x0 m0 Γ H) (hf : cells ≤ mc ∧ slots ≤ ms) {v : Int32} (hdg : decode cc pc = .ok (.ireturn, 1)) : W p l e R s m args below meth c H locs cells slots Q (F0 m pc ls [.int v]) := by
  subst hQ
  refine W.widen hf.1 hf.2 ?_
  exact W.iret X.1 X.2.1 hr (fun t ht _ => ⟨v, Γ, rfl, by rw [ht]; exact hF.1, hF.2.1, hF.2.2.1, by rw [ht]; exact hL, hF.2.2.2.F ht⟩) hF.2.2.2.2.2 hdg X.2.2.2.2.2.2.2.2
end
theorem cok_z {g : GG} {Γ : Nat → Nat} {H : Heap} {q t n : Nat} {a : AV} (e : Γ q = t) (ht : TS0.1 t = .inr (1, n, a)) (hA : va_at g.1 CLS (q, .inl (g.2.1 1, (n, .inl (fun _ => 0)))) H) (h0 : a.1 = 0 ∧ a.2.1 ≤ 0 ∧ 0 ≤ a.2.2) : cok g TS0 Γ q H := by
  unfold cok
  rw [e, ht]
  exact ⟨(n, .inl (fun _ => 0)), hA, rfl, Or.inr (Or.inl rfl), fun _ _ => ⟨h0.1, h0.2.1, h0.2.2⟩⟩
theorem spc_no {g : GG} {Γ : Nat → Nat} {H : Heap} {q t : Nat} (e : Γ q = t) (h : (Nat.beq t 7 || (Nat.beq t 3 || (Nat.beq t 25 || (Nat.beq t 113 || Nat.beq t 4)))) = false) : spc g Γ q H := by
  unfold spc
  rw [e]
  obtain ⟨h1, h⟩ := Bool.or_eq_false_iff.mp h
  obtain ⟨h2, h⟩ := Bool.or_eq_false_iff.mp h
  obtain ⟨h3, h⟩ := Bool.or_eq_false_iff.mp h
  obtain ⟨h4, h5⟩ := Bool.or_eq_false_iff.mp h
  exact ⟨Nat.ne_of_beq_eq_false h1, Nat.ne_of_beq_eq_false h2, fun h => h.elim (fun h => absurd h (Nat.ne_of_beq_eq_false h3)) (fun h => absurd h (Nat.ne_of_beq_eq_false h4)), fun h => absurd h (Nat.ne_of_beq_eq_false h5)⟩
def PL : List Nat := [4, 31, 32, 33, 34, 35, 36, 37]
def VL : List Nat := [13, 110, 111, 112, 24, 24, 24, 113, 26, 27, 28, 29, 30]
abbrev PWd (g : GG) (z v0 : Nat) : va_W := [(z, .inr (4, [.ref v0, .int 0, .ref (z + 1), .ref (z + 2), .ref (z + 3), .ref (z + 4), .ref (z + 5), .ref (z + 6), .ref (z + 7)])), ((z + 1), .inl (g.2.1 1, 40, .inl (fun _ => 0))), ((z + 2), .inl (g.2.1 1, 40, .inl (fun _ => 0))), ((z + 3), .inl (g.2.1 1, 40, .inl (fun _ => 0))), ((z + 4), .inl (g.2.1 1, 40, .inl (fun _ => 0))), ((z + 5), .inl (g.2.1 1, 40, .inl (fun _ => 0))), ((z + 6), .inl (g.2.1 1, 40, .inl (fun _ => 0))), ((z + 7), .inl (g.2.1 1, 40, .inl (fun _ => 0)))]
abbrev XWd (g : GG) (z : Nat) : va_W := [(z, .inr (10, [.int 0, .int 0, .int 0, .ref (z + 1), .ref (z + 2), .ref (z + 3), .ref (z + 4), .ref (z + 5), .ref (z + 6), .ref (z + 7), .ref (z + 8), .ref (z + 9), .ref (z + 10), .ref (z + 11), .int (-2), .ref (z + 12)])), ((z + 1), .inl (g.2.1 1, 4, .inl (fun _ => 0))), ((z + 2), .inl (g.2.1 1, 4, .inl (fun _ => 0))), ((z + 3), .inl (g.2.1 1, 4, .inl (fun _ => 0))), ((z + 4), .inl (g.2.1 1, 7, .inl (fun _ => 0))), ((z + 5), .inl (g.2.1 1, 7, .inl (fun _ => 0))), ((z + 6), .inl (g.2.1 1, 7, .inl (fun _ => 0))), ((z + 7), .inl (g.2.1 1, 72, .inl (fun _ => 0))), ((z + 8), .inl (g.2.1 1, 175, .inl (fun _ => 0))), ((z + 9), .inl (g.2.1 1, 42, .inl (fun _ => 0))), ((z + 10), .inl (g.2.1 1, 7, .inl (fun _ => 0))), ((z + 11), .inl (g.2.1 1, 28, .inl (fun _ => 0))), ((z + 12), .inl (g.2.1 1, 7, .inl (fun _ => 0)))]
set_option maxHeartbeats 4000000 in
theorem HT_plan {g : GG} {Γ : Nat → Nat} {H H1 : Heap} {z v0 : Nat} (hT : HT g TS0 Γ H) (hz : H.size = z) (ho : ∀ q : Nat, q < z → H1[q]? = H[q]?) (hP : va_P g.1 CLS (PWd g z v0) H1) (tv : Γ v0 = 3) : HT g TS0 (gw Γ z PL) H1 := by
  have lt0 : ∀ x : Nat, Γ x ≠ 0 → x < z := fun x hx => hz ▸ hT.lt hx
  refine HT_grow hT (fun x hx => ho x (lt0 x hx)) (fun x hx => gw_old (lt0 x hx)) fun x h1 h2 => ?_
  rcases gw_cases lt0 h2 with h | ⟨i, hi, rfl, e⟩
  · exact absurd h1 h.1
  · match i, hi, e with
    | 0, _, e =>
      have e : gw Γ z PL z = 4 := e
      refine ⟨?_, ?_⟩
      · show cok g TS0 (gw Γ z PL) z H1
        unfold cok
        rw [e]
        exact ⟨_, hP 0 _ rfl, av_ref ((gw_old (lt0 v0 (by rw [tv]; decide))).trans tv) (by decide), ⟨rfl, by decide, by decide⟩, av_ref (gw_new (i := 1) (by decide)) (by decide), av_ref (gw_new (i := 2) (by decide)) (by decide), av_ref (gw_new (i := 3) (by decide)) (by decide), av_ref (gw_new (i := 4) (by decide)) (by decide), av_ref (gw_new (i := 5) (by decide)) (by decide), av_ref (gw_new (i := 6) (by decide)) (by decide), av_ref (gw_new (i := 7) (by decide)) (by decide), trivial⟩
      · show spc g (gw Γ z PL) z H1
        unfold spc
        rw [e]
        refine ⟨by decide, by decide, fun h => (by rcases h with h | h <;> cases h), fun _ => ⟨gw_new (i := 2) (by decide), gw_new (i := 4) (by decide), FE_at (k := 3) (hP 0 _ rfl) rfl (by decide) rfl, FE_at (k := 5) (hP 0 _ rfl) rfl (by decide) rfl, _, _, hP 2 _ rfl, hP 4 _ rfl, fun _ _ => Or.inr ⟨by decide, by decide⟩⟩⟩
    | 1, _, e => exact ⟨cok_z (t := 31) e rfl (hP 1 _ rfl) ⟨rfl, by decide, by decide⟩, spc_no (t := 31) e rfl⟩
    | 2, _, e => exact ⟨cok_z (t := 32) e rfl (hP 2 _ rfl) ⟨rfl, by decide, by decide⟩, spc_no (t := 32) e rfl⟩
    | 3, _, e => exact ⟨cok_z (t := 33) e rfl (hP 3 _ rfl) ⟨rfl, by decide, by decide⟩, spc_no (t := 33) e rfl⟩
    | 4, _, e => exact ⟨cok_z (t := 34) e rfl (hP 4 _ rfl) ⟨rfl, by decide, by decide⟩, spc_no (t := 34) e rfl⟩
    | 5, _, e => exact ⟨cok_z (t := 35) e rfl (hP 5 _ rfl) ⟨rfl, by decide, by decide⟩, spc_no (t := 35) e rfl⟩
    | 6, _, e => exact ⟨cok_z (t := 36) e rfl (hP 6 _ rfl) ⟨rfl, by decide, by decide⟩, spc_no (t := 36) e rfl⟩
    | 7, _, e => exact ⟨cok_z (t := 37) e rfl (hP 7 _ rfl) ⟨rfl, by decide, by decide⟩, spc_no (t := 37) e rfl⟩
    | i + 8, hi, _ => exact absurd hi (by unfold PL; simp)
set_option maxHeartbeats 4000000 in
theorem HT_spare {g : GG} {Γ : Nat → Nat} {H H1 : Heap} {z : Nat} (hT : HT g TS0 Γ H) (hz : H.size = z) (ho : ∀ q : Nat, q < z → H1[q]? = H[q]?) (hP : va_P g.1 CLS (XWd g z) H1) : HT g TS0 (gw Γ z VL) H1 := by
  have lt0 : ∀ x : Nat, Γ x ≠ 0 → x < z := fun x hx => hz ▸ hT.lt hx
  refine HT_grow hT (fun x hx => ho x (lt0 x hx)) (fun x hx => gw_old (lt0 x hx)) fun x h1 h2 => ?_
  rcases gw_cases lt0 h2 with h | ⟨i, hi, rfl, e⟩
  · exact absurd h1 h.1
  · match i, hi, e with
    | 0, _, e =>
      have e : gw Γ z VL z = 13 := e
      refine ⟨?_, spc_no e rfl⟩
      show cok g TS0 (gw Γ z VL) z H1
      unfold cok
      rw [e]
      exact ⟨_, hP 0 _ rfl, ⟨rfl, by decide, by decide⟩, ⟨rfl, by decide, by decide⟩, ⟨rfl, by decide, by decide⟩, av_ref (gw_new (i := 1) (by decide)) (by decide), av_ref (gw_new (i := 2) (by decide)) (by decide), av_ref (gw_new (i := 3) (by decide)) (by decide), av_ref (gw_new (i := 4) (by decide)) (by decide), av_ref (gw_new (i := 5) (by decide)) (by decide), av_ref (gw_new (i := 6) (by decide)) (by decide), av_ref (gw_new (i := 7) (by decide)) (by decide), av_ref (gw_new (i := 8) (by decide)) (by decide), av_ref (gw_new (i := 9) (by decide)) (by decide), av_ref (gw_new (i := 10) (by decide)) (by decide), av_ref (gw_new (i := 11) (by decide)) (by decide), ⟨rfl, by decide, by decide⟩, av_ref (gw_new (i := 12) (by decide)) (by decide), trivial⟩
    | 1, _, e => exact ⟨cok_z (t := 110) e rfl (hP 1 _ rfl) ⟨rfl, by decide, by decide⟩, spc_no (t := 110) e rfl⟩
    | 2, _, e => exact ⟨cok_z (t := 111) e rfl (hP 2 _ rfl) ⟨rfl, by decide, by decide⟩, spc_no (t := 111) e rfl⟩
    | 3, _, e => exact ⟨cok_z (t := 112) e rfl (hP 3 _ rfl) ⟨rfl, by decide, by decide⟩, spc_no (t := 112) e rfl⟩
    | 4, _, e => exact ⟨cok_z (t := 24) e rfl (hP 4 _ rfl) ⟨rfl, by decide, by decide⟩, spc_no (t := 24) e rfl⟩
    | 5, _, e => exact ⟨cok_z (t := 24) e rfl (hP 5 _ rfl) ⟨rfl, by decide, by decide⟩, spc_no (t := 24) e rfl⟩
    | 6, _, e => exact ⟨cok_z (t := 24) e rfl (hP 6 _ rfl) ⟨rfl, by decide, by decide⟩, spc_no (t := 24) e rfl⟩
    | 7, _, e => exact ⟨cok_z (t := 113) e rfl (hP 7 _ rfl) ⟨rfl, by decide, by decide⟩, by
        have e : gw Γ z VL (z + 7) = 113 := e
        unfold spc
        rw [e]
        exact ⟨by decide, by decide, fun _ => ⟨_, hP 7 _ rfl, fun j _ => lsp0 _⟩, fun h => by cases h⟩⟩
    | 8, _, e => exact ⟨cok_z (t := 26) e rfl (hP 8 _ rfl) ⟨rfl, by decide, by decide⟩, spc_no (t := 26) e rfl⟩
    | 9, _, e => exact ⟨cok_z (t := 27) e rfl (hP 9 _ rfl) ⟨rfl, by decide, by decide⟩, spc_no (t := 27) e rfl⟩
    | 10, _, e => exact ⟨cok_z (t := 28) e rfl (hP 10 _ rfl) ⟨rfl, by decide, by decide⟩, spc_no (t := 28) e rfl⟩
    | 11, _, e => exact ⟨cok_z (t := 29) e rfl (hP 11 _ rfl) ⟨rfl, by decide, by decide⟩, spc_no (t := 29) e rfl⟩
    | 12, _, e => exact ⟨cok_z (t := 30) e rfl (hP 12 _ rfl) ⟨rfl, by decide, by decide⟩, spc_no (t := 30) e rfl⟩
    | i + 13, hi, _ => exact absurd hi (by unfold VL; simp)
/-- the object itself again -/
def bk (Γ : Nat → Nat) (x0 x : Nat) : Nat := if x = x0 then 1 else Γ x
theorem bk_ne {Γ : Nat → Nat} {x0 x : Nat} (h : x ≠ x0) : bk Γ x0 x = Γ x := by unfold bk; rw [if_neg h]
theorem bk_self {Γ : Nat → Nat} {x0 : Nat} : bk Γ x0 x0 = 1 := by unfold bk; rw [if_pos rfl]
theorem HT_bk {g : GG} {Γ : Nat → Nat} {H : Heap} {x0 : Nat} {vs : List Value} (hT : HT g TS0 Γ H) (h0 : Γ x0 = 0) (hat : va_at g.1 CLS (x0, .inr (11, vs)) H) (hv : VR g (bk Γ x0) [vr 2, vr 20, vr 21, vr 5, vr 6, vr 8, vr 9, vr 10, vr 11, vr 12, vr 13, vi 0 10, vi 0 12, itop] vs) : HT g TS0 (bk Γ x0) H := by
  refine HT_grow hT (fun _ _ => rfl) (fun x hx => bk_ne fun e => hx (by rw [e]; exact h0)) fun x h1 h2 => ?_
  by_cases e : x = x0
  · subst e
    refine ⟨?_, spc_no bk_self rfl⟩
    unfold cok
    rw [bk_self]
    exact ⟨vs, hat, hv⟩
  · rw [bk_ne e] at h2
    exact absurd h1 h2
theorem UQ_rt {Γ : Nat → Nat} {x0 : Nat} (hU : UQ TS0 Γ) (hok : ∀ q : Nat, okt (Γ q) = true) : UQ TS0 (rt Γ x0) := by
  have key : ∀ q : Nat, uqt TS0 (rt Γ x0 q) = true → rt Γ x0 q = Γ q := fun q h => by
    have h0 : rt Γ x0 q ≠ 0 := fun e => by rw [e] at h; exact absurd h (by decide)
    obtain ⟨-, e⟩ := rt_nz h0
    rw [e] at h ⊢
    exact (rt1_a _ (okt_le (hok q))).2.2.1 h
  intro q q' e hu
  have h1 := key q hu
  have h2 := key q' (e ▸ hu)
  exact hU q q' (by rw [← h1, ← h2]; exact e) (h1 ▸ hu)
theorem UQ_bk {Γ : Nat → Nat} {x0 : Nat} (hU : UQ TS0 Γ) (h1 : ∀ x : Nat, Γ x ≠ 1) : UQ TS0 (bk Γ x0) := by
  intro q q' e hu
  by_cases e1 : q = x0
  · by_cases e2 : q' = x0
    · rw [e1, e2]
    · rw [e1, bk_self, bk_ne e2] at e
      exact absurd e.symm (h1 q')
  · rw [bk_ne e1] at e hu
    by_cases e2 : q' = x0
    · rw [e2, bk_self] at e
      exact absurd e (h1 q)
    · rw [bk_ne e2] at e
      exact hU q q' e hu
/-- the tag map behind a valley that has been made -/
abbrev GV (Γ : Nat → Nat) (x0 z : Nat) : Nat → Nat := bk (gw (rt Γ x0) z VL) x0
theorem rt1_1 : ∀ t : Nat, t ≤ 128 → rt1 t = 1 → t = 1 := by decide +kernel
theorem GV_old {Γ : Nat → Nat} {x0 z b t : Nat} (h0 : Γ x0 = 1) (hb : Γ b = t) (hz : b < z) (ht : t ≠ 1) : GV Γ x0 z b = rt1 t := by
  have hne : b ≠ x0 := fun e => ht (by rw [← hb, e]; exact h0)
  rw [GV, bk_ne hne, gw_old hz, rt_ne hne, hb]
theorem GV_new {Γ : Nat → Nat} {x0 z i : Nat} (hz : x0 < z) (hi : i < VL.length) : GV Γ x0 z (z + i) = VL.getD i 0 := by
  rw [GV, bk_ne (by omega), gw_new hi]
theorem avi_GV {g : GG} {Γ : Nat → Nat} {x0 z t : Nat} {v : Value} (h0 : Γ x0 = 1) (lt0 : ∀ x : Nat, Γ x ≠ 0 → x < z) (ht : t ≠ 1) (h2 : t ≠ 0) (he : rt1 t = t) (h : avi g Γ (vr t) v) : avi g (GV Γ x0 z) (vr t) v := by
  obtain ⟨q, rfl, h1, h3⟩ := avi_ref rfl h
  exact av_ref ((GV_old h0 h1 (lt0 q h3) ht).trans he) h2
set_option maxHeartbeats 4000000 in
theorem VR_GV {g : GG} {Γ : Nat → Nat} {x0 z : Nat} {vs : List Value} (h0 : Γ x0 = 1) (lt0 : ∀ x : Nat, Γ x ≠ 0 → x < z) (hv : VR g Γ [vr 2, vr 20, vr 21, vr 5, vr 6, vr 8, vr 9, vr 10, vr 11, vr 12, vr 13, vi 0 10, vi 0 12, itop] vs) : VR g (GV Γ x0 z) [vr 2, vr 20, vr 21, vr 5, vr 6, vr 8, vr 9, vr 10, vr 11, vr 12, vr 13, vi 0 10, vi 0 12, itop] (vs.set 10 (.ref z)) := by
  refine VR_at (by rw [List.length_set]; exact hv.len) fun k a v ha hk => ?_
  have key : k ≠ 10 → ∀ b : AV, [vr 2, vr 20, vr 21, vr 5, vr 6, vr 8, vr 9, vr 10, vr 11, vr 12, vr 13, vi 0 10, vi 0 12, itop][k]? = some b → avi g Γ b v := fun hne b hb => by
    obtain ⟨w, h1, h2⟩ := hv.get hb
    rw [List.getElem?_set_ne (Ne.symm hne)] at hk
    rw [hk] at h1
    cases h1
    exact h2
  match k, ha with
  | 0, ha => cases ha; exact avi_GV (t := 2) h0 lt0 (by decide) (by decide) rfl (key (by decide) _ rfl)
  | 1, ha => cases ha; exact avi_GV (t := 20) h0 lt0 (by decide) (by decide) rfl (key (by decide) _ rfl)
  | 2, ha => cases ha; exact avi_GV (t := 21) h0 lt0 (by decide) (by decide) rfl (key (by decide) _ rfl)
  | 3, ha => cases ha; exact avi_GV (t := 5) h0 lt0 (by decide) (by decide) rfl (key (by decide) _ rfl)
  | 4, ha => cases ha; exact avi_GV (t := 6) h0 lt0 (by decide) (by decide) rfl (key (by decide) _ rfl)
  | 5, ha => cases ha; exact avi_GV (t := 8) h0 lt0 (by decide) (by decide) rfl (key (by decide) _ rfl)
  | 6, ha => cases ha; exact avi_GV (t := 9) h0 lt0 (by decide) (by decide) rfl (key (by decide) _ rfl)
  | 7, ha => cases ha; exact avi_GV (t := 10) h0 lt0 (by decide) (by decide) rfl (key (by decide) _ rfl)
  | 8, ha => cases ha; exact avi_GV (t := 11) h0 lt0 (by decide) (by decide) rfl (key (by decide) _ rfl)
  | 9, ha => cases ha; exact avi_GV (t := 12) h0 lt0 (by decide) (by decide) rfl (key (by decide) _ rfl)
  | 10, ha =>
    cases ha
    rw [List.getElem?_set_self (by rw [hv.len]; decide)] at hk
    cases hk
    exact av_ref (GV_new (i := 0) (lt0 x0 (by rw [h0]; decide)) (by decide)) (by decide)
  | 11, ha => cases ha; exact avi_i2 (key (by decide) _ rfl)
  | 12, ha => cases ha; exact avi_i2 (key (by decide) _ rfl)
  | 13, ha => cases ha; exact avi_i2 (key (by decide) _ rfl)
  | k + 14, ha => cases ha
theorem LF_GV {g : GG} {Γ : Nat → Nat} {x0 m0 z : Nat} {H H1 : Heap} (hL : LF g x0 m0 Γ H) (hU : UQ TS0 Γ) (lt0 : ∀ x : Nat, Γ x ≠ 0 → x < z) (hsp : FE g z 10 9 H1 (.ref (z + 7))) (hc : ∀ a9 v : Nat, FE g x0 11 9 H (.ref a9) → FE g x0 11 9 H1 (.ref a9)) (hc2 : ∀ (a9 k : Nat) (v : Value), Γ a9 = 12 → FE g a9 2 k H v → FE g a9 2 k H1 v) : LF g x0 m0 (GV Γ x0 z) H1 ∧ UQ TS0 (GV Γ x0 z) := by
  obtain ⟨h1, h2, h3, h4, h5, a9, j0, j1, c1, c2, c3, c4, c5⟩ := hL
  have hx0 : x0 < z := lt0 x0 (by rw [h1]; decide)
  have rlt : ∀ x : Nat, rt Γ x0 x ≠ 0 → x < z := fun x hx => by
    obtain ⟨-, e⟩ := rt_nz hx
    rw [e] at hx
    exact lt0 x ((rt1_a _ (okt_le (h3 x))).1 hx)
  have no1 : ∀ x : Nat, gw (rt Γ x0) z VL x ≠ 1 := fun x hx => by
    rcases gw_cases rlt (by rw [hx]; decide) with h | ⟨i, hi, -, e⟩
    · obtain ⟨hne, e⟩ := rt_nz h.1
      have e1 : rt1 (Γ x) = 1 := by rw [← e, ← h.2.1]; exact hx
      have := rt1_1 _ (okt_le (h3 x)) e1
      exact hne (hU x x0 (this.trans h1.symm) (by rw [this]; decide))
    · rw [hx] at e
      have k : ∀ i : Fin 13, 1 ≠ VL.getD i.val 0 := by decide
      exact k ⟨i, hi⟩ e
  have c13 : ∀ q : Nat, GV Γ x0 z q = 13 → q = z := fun q hq => by
    have hne : q ≠ x0 := fun e => by rw [GV, e, bk_self] at hq; cases hq
    rw [GV, bk_ne hne] at hq
    rcases gw_cases rlt (by rw [hq]; decide) with h | ⟨i, hi, rfl, e⟩
    · obtain ⟨-, e⟩ := rt_nz h.1
      exfalso
      refine (rt1_a _ (okt_le (h3 q))).2.2.2.1 ?_
      rw [← e, ← h.2.1]; exact hq
    · rw [hq] at e
      have k : ∀ i : Fin 13, 13 = VL.getD i.val 0 → i.val = 0 := by decide
      have := k ⟨i, hi⟩ e
      have : i = 0 := this
      omega
  refine ⟨⟨bk_self, GV_old h1 h2 (lt0 m0 (by rw [h2]; decide)) (by decide), fun q => ?_, fun q q' e e' => (c13 q e).trans (c13 q' e').symm, fun q hq => ?_, a9, j0, j1, GV_old h1 c1 (lt0 a9 (by rw [c1]; decide)) (by decide), hc a9 0 c2, hc2 a9 0 _ c1 c3, hc2 a9 1 _ c1 c4, c5⟩, UQ_bk (UQ_gw (UQ_rt hU h3) rlt (by decide)) no1⟩
  · by_cases e : q = x0
    · rw [GV, e, bk_self]; rfl
    · rw [GV, bk_ne e]
      by_cases hz : gw (rt Γ x0) z VL q = 0
      · rw [hz]; rfl
      · rcases gw_cases rlt hz with h | ⟨i, hi, -, e2⟩
        · obtain ⟨-, e3⟩ := rt_nz h.1
          rw [h.2.1, e3]
          exact rt1_c _ (okt_le (h3 q)) (h3 q)
        · rw [e2]
          have k : ∀ i : Fin 13, okt (VL.getD i.val 0) = true := by decide
          exact k ⟨i, hi⟩
  · obtain rfl := c13 q hq
    exact ⟨GV_new hx0 (i := 7) (by decide), hsp⟩

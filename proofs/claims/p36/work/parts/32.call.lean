/-! contracts of the checker: calls and returns -/
/-- depth, arguments, result, what it says of arguments, what may change, what is followed at its start -/
abbrev SPEC : Type := Nat × List AV × AV × List (Int × Int × Nat × AV) × List (Nat × Nat) × List (Nat × AV)
def RO (g : GG) (Γ : Nat → Nat) (sp : SPEC) (As : List Value) : Option Value → Prop
  | none => sp.2.2.1.1 = 7
  | some v => avi g Γ sp.2.2.1 v ∧ ∀ q ∈ sp.2.2.2.1, ∀ x : Int32, v = .int x → q.1 ≤ x.toInt → x.toInt ≤ q.2.1 → ∃ w, As[q.2.2.1]? = some w ∧ avi g Γ q.2.2.2 w
def SQ (g : GG) (ts : TS) (Γ : Nat → Nat) (sp : SPEC) (As : List Value) : Array Value → State → Outcome → State → Prop := fun _ st oc t =>
  ∃ v : Option Value, oc = .returned v ∧ RO g Γ sp As v ∧ HT g ts Γ t.heap ∧ t.heap.size = st.heap.size ∧ (∀ q : Nat, Γ q = 0 → t.heap[q]? = st.heap[q]?) ∧ Un g ts Γ sp.2.2.2.2.1 st.heap t.heap
def PFT (g : GG) (ts : TS) (Γ : Nat → Nat) (As : List Value) (pf : List (Nat × AV)) (H : Heap) : Prop := ∀ q ∈ pf, ∃ v, avi g Γ q.2 v ∧ FACT g ts Γ As q.1 H v
def SPRE (g : GG) (ts : TS) (Γ : Nat → Nat) (As : List Value) (pf : List (Nat × AV)) : State → Prop := fun U => HT g ts Γ U.heap ∧ KX g U ∧ TB g (AA Γ U.heap.size) U U.heap ∧ PFT g ts Γ As pf U.heap
def SM (l : Launch) (g : GG) (ts : TS) (y : MethodName) (c : ByteArray) (n : Nat) (r : Option FieldType) (sp : SPEC) : Prop :=
  ∀ (Γ : Nat → Nat) (As : List Value), UQ ts Γ → VR g Γ sp.2.1 As → Met l y (WW y c n r) (RM sp.1 0 0) (va_Pc As (SPRE g ts Γ As sp.2.2.2.2.2)) (SQ g ts Γ sp As) 0 0 (fun q => Γ q ≠ 0)
theorem SPRE.blind {g : GG} {ts : TS} {Γ : Nat → Nat} {As Bs : List Value} {pf : List (Nat × AV)} : FrameBlind (va_Pc As (SPRE g ts Γ Bs pf)) := by
  intro a U f mk q
  obtain ⟨q0, qP, qK, qT, qF⟩ := q
  exact ⟨q0, qP, qK.calling, TB.moved (u := U) (U := U.calling f mk a) (Vm.Alike.refl U.vm) qT, qF⟩
/-- a private method of an object of a nest mate -/
def LVN (own : String) (idx : Nat) (host C : String) (y : MethodName) (c : ByteArray) (n : Nat) (r : Option FieldType) (k : Nat) : Prop :=
  Cond.methodLinkNest own idx y host ∈ NWS ∧ Cond.instanceMethod y ∈ BW ∧ Cond.selects C y y ∈ BW ∧ Cond.initialized y.cls ∈ BW ∧ Cond.code y c n r ∈ BW ∧ y.cls ≠ "java/lang/invoke/MethodHandle" ∧ y.cls ≠ "java/lang/invoke/VarHandle" ∧ (parseMethodDescriptor y.desc).map (fun d => d.parameters.length) = some k
/-- the copying of arrays -/
def CPY (own : String) (idx : Nat) : Prop := Cond.methodLink own idx arraycopyName ∈ BW ∧ Cond.native arraycopyName ∈ BW ∧ Cond.static arraycopyName ∈ BW ∧ Cond.initialized "java/lang/System" ∈ BW
/-- the lesser, the greater of two ints -/
def MNX (own : String) (idx : Nat) : Prop := Cond.methodLink own idx Lib.Math.min.name ∈ BW ∧ Cond.static Lib.Math.min.name ∈ BW ∧ Cond.initialized "java/lang/Math" ∈ BW ∧ Cond.code Lib.Math.min.name Lib.Math.min.code 2 (some .int) ∈ BW
def MXX (own : String) (idx : Nat) : Prop := Cond.methodLink own idx Lib.Math.max.name ∈ BW ∧ Cond.static Lib.Math.max.name ∈ BW ∧ Cond.initialized "java/lang/Math" ∈ BW ∧ Cond.code Lib.Math.max.name Lib.Math.max.code 2 (some .int) ∈ BW
def mnsp (a b : AV) : SPEC := (1, [a, b], (0, imin a.2.1 b.2.1, imin a.2.2 b.2.2), [], [], [])
def mxsp (a b : AV) : SPEC := (1, [a, b], (0, imax a.2.1 b.2.1, imax a.2.2 b.2.2), [], [], [])
def cpsp (t1 t2 k : Nat) : SPEC := (2, [(1, .ofNat t1, 0), (0, 0, 0), (1, .ofNat t2, 0), (0, 0, 0), (0, .ofNat k, .ofNat k)], (7, 0, 0), [], [(t2, 0)], [])
/-- a callee as a caller's table has it: 0 by its object, 1 static, 2 static of a nest mate, 3 the copying of arrays, 4 and 5 the lesser and the greater -/
def COK (l : Launch) (g : GG) (ts : TS) (own : String) (kd idx na ci : Nat) (sp : SPEC) : Prop :=
  (∃ (y : MethodName) (c : ByteArray) (n : Nat) (r : Option FieldType), SM l g ts y c n r sp ∧ n ≤ 21 ∧
    ((kd = 0 ∧ ∃ (C : String) (T : u_T) (N : Nat), LV own idx C y c n r na ∧ CLS[ci]? = some (C, T, N)) ∨ (kd = 0 ∧ ∃ (host C : String) (T : u_T) (N : Nat), LVN own idx host C y c n r na ∧ CLS[ci]? = some (C, T, N)) ∨ (kd = 1 ∧ LST own idx y c n r na) ∨ (kd = 2 ∧ ∃ host : String, LSN own idx host y c n r na))) ∨
  (kd = 3 ∧ na = 5 ∧ CPY own idx ∧ ∃ (t1 t2 k n1 n2 : Nat) (a1 a2 : AV), sp = cpsp t1 t2 k ∧ ts.1 t1 = .inr (1, n1, a1) ∧ ts.1 t2 = .inr (1, n2, a2) ∧ k ≤ n1 ∧ k ≤ n2 ∧ n1 < 2 ^ 31 ∧ avle a1 a2 = true ∧ md GD t2 0 = false) ∨
  (na = 2 ∧ ∃ a b : AV, a.1 = 0 ∧ b.1 = 0 ∧ ((kd = 4 ∧ MNX own idx ∧ sp = mnsp a b) ∨ (kd = 5 ∧ MXX own idx ∧ sp = mxsp a b)))
def tk : Nat → List SE → Option (List SE × List SE)
  | 0, st => some ([], st)
  | _ + 1, [] => none
  | n + 1, e :: r => match tk n r with
    | some (as, r') => some (as ++ [e], r')
    | none => none
theorem SR.app {g : GG} {Γ : Nat → Nat} {E : ENV} : ∀ {a b : List SE} {u v : List Value}, SR g Γ E a u → SR g Γ E b v → SR g Γ E (a ++ b) (u ++ v)
  | [], _, [], _, _, h => h
  | _ :: _, _, _ :: _, _, h, h2 => ⟨h.1, SR.app h.2 h2⟩
  | [], _, _ :: _, _, h, _ => h.elim
  | _ :: _, _, [], _, h, _ => h.elim
theorem SR.len {g : GG} {Γ : Nat → Nat} {E : ENV} : ∀ {a : List SE} {u : List Value}, SR g Γ E a u → u.length = a.length
  | [], [], _ => rfl
  | _ :: _, _ :: _, h => by rw [List.length_cons, List.length_cons, SR.len h.2]
  | [], _ :: _, h => h.elim
  | _ :: _, [], h => h.elim
theorem SR_tk {g : GG} {Γ : Nat → Nat} {E : ENV} : ∀ {n : Nat} {st as r : List SE} {vs : List Value}, SR g Γ E st vs → tk n st = some (as, r) → ∃ avs rs, vs = avs.reverse ++ rs ∧ SR g Γ E as avs ∧ SR g Γ E r rs ∧ avs.length = n
  | 0, st, as, r, vs, h, e => by
    cases e
    exact ⟨[], vs, rfl, trivial, h, rfl⟩
  | n + 1, [], _, _, _, _, e => by cases e
  | n + 1, b :: st, as, r, vs, h, e => by
    obtain ⟨v, s, rfl, h1, h2⟩ := h.two
    rw [tk] at e
    split at e
    · rename_i as' r' he
      cases e
      obtain ⟨avs, rs, e1, e2, e3, e4⟩ := SR_tk h2 he
      refine ⟨avs ++ [v], rs, ?_, SR.app e2 ⟨h1, trivial⟩, e3, ?_⟩
      · rw [List.reverse_append, e1]; rfl
      · rw [List.length_append, e4]; rfl
    · cases e
def ach : List SE → List AV → Bool
  | [], [] => true
  | e :: r, a :: s => avle e.1 a && ach r s
  | _, _ => false
theorem ach_ok {g : GG} {Γ : Nat → Nat} {E : ENV} : ∀ {as : List SE} {pa : List AV} {avs : List Value}, SR g Γ E as avs → ach as pa = true → VR g Γ pa avs
  | [], [], [], _, _ => trivial
  | e :: r, a :: s, v :: w, h, q => by
    obtain ⟨q1, q2⟩ := Bool.and_eq_true_iff.mp q
    exact ⟨avle_ok q1 h.1.1, ach_ok h.2 q2⟩
  | [], _ :: _, _, _, q => by cases q
  | _ :: _, [], _, _, q => by cases q
  | [], [], _ :: _, h, _ => h.elim
  | _ :: _, _ :: _, [], h, _ => h.elim
def imt1 (as : List SE) (q : Int × Int × Nat × AV) : Option (Int × Int × Nat × AV) := match as[q.2.2.1]? with
  | some e => match e.2.1 with
    | 0 => none
    | i + 1 => bif Nat.blt i 1000 then some (q.1, q.2.1, i, q.2.2.2) else none
  | none => none
def imt (as : List SE) (im : List (Int × Int × Nat × AV)) : List (Int × Int × Nat × AV) := im.filterMap (imt1 as)
theorem SR.at {g : GG} {Γ : Nat → Nat} {E : ENV} {e : SE} : ∀ {as : List SE} {avs : List Value} {j : Nat}, SR g Γ E as avs → as[j]? = some e → ∃ v, avs[j]? = some v ∧ sei g Γ E e v
  | [], [], _, _, h => by cases h
  | _ :: _, v :: _, 0, h, q => by cases q; exact ⟨v, rfl, h.1⟩
  | _ :: r, _ :: s, j + 1, h, q => by
    obtain ⟨v, h1, h2⟩ := SR.at (j := j) h.2 q
    exact ⟨v, h1, h2⟩
  | [], _ :: _, _, h, _ => h.elim
  | _ :: _, [], _, h, _ => h.elim
theorem imt_ok {g : GG} {Γ : Nat → Nat} {E E' : ENV} (hE : ∀ i v, i < 1000 → E i = some v → E' i = some v) {sp : SPEC} {as : List SE} {avs : List Value} {v : Value} (h : SR g Γ E as avs) (hr : RO g Γ sp avs (some v)) : sei g Γ E' (sp.2.2.1, 0, imt as sp.2.2.2.1) v := by
  refine ⟨hr.1, Or.inl rfl, fun q hq => ?_⟩
  obtain ⟨q0, hq0, he⟩ := List.mem_filterMap.mp hq
  unfold imt1 at he
  split at he
  · rename_i e hj
    split at he
    · cases he
    · rename_i i hi
      cases hb : Nat.blt i 1000 with
      | false => rw [hb] at he; cases he
      | true =>
        rw [hb] at he
        cases he
        intro x hx h1 h2
        obtain ⟨w, hw, ha⟩ := hr.2 q0 hq0 x hx h1 h2
        obtain ⟨w2, hw2, hs⟩ := h.at hj
        cases hw.symm.trans hw2
        rcases hs.2.1 with h0 | h0
        · rw [hi] at h0; cases h0
        · rw [hi] at h0
          exact ⟨w, hE _ _ (blt_lt hb) h0, ha⟩
  · cases he
section
variable {p : Program} {l : Launch} {e : Env} {R : Room} {s : State} {m : MethodId} {args : Array Value} {below : List Frame} {meth : Method} {c : Code} {H : Heap} {locs : List Loc} {cells slots : Nat} {Q : State → Prop}
variable {cc : ByteArray} {pc nL : Nat} {ls : Array Slot} {rest : List Value} {own : String} {g : GG} {ts : TS} {Γ : Nat → Nat} {mods : List (Nat × Nat)} {q idx0 : Nat}
theorem s_pre (X : CTX p l m meth c cc nL s args own g (AA Γ s.heap.size)) (hI : HI g ts Γ mods s H locs) {As : List Value} {pf : List (Nat × AV)} (hpf : PFT g ts Γ As pf H) (U : State) (hU : U.heap = H) (hW : s.WarmedH U.vm) : SPRE g ts Γ As pf U := by
  refine ⟨by rw [hU]; exact hI.1, X.2.2.2.2.2.1.warm hW, ?_, by rw [hU]; exact hpf⟩
  rw [hU, hI.2.1]
  exact (X.2.2.2.2.2.2.1.moved hW.alike).kept hI.S.2.1
theorem s_ret {sp : SPEC} {As : List Value} {a : Array Value} {st0 : List Value} (hr : va_Run p l e R s m args below meth c H locs cells slots 0 0 (F0 m pc ls st0) rest (SQ g ts Γ sp As a) (fun q => Γ q ≠ 0)) (hI : HI g ts Γ mods s H locs) (hm : ∀ t k, md sp.2.2.2.2.1 t k = true → md mods t k = true)
    (kk : ∀ (v : Option Value) (H1 : Heap) (locs1 : List Loc), RO g Γ sp As v → HI g ts Γ mods s H1 locs1 → Un g ts Γ sp.2.2.2.2.1 H H1 → W p l e R s m args below meth c H1 locs1 cells slots Q (F0 m (pc + 3) ls (v.toList ++ rest))) : W p l e R s m args below meth c H locs cells slots Q (F0 m pc ls st0) := by
  intro T hT X
  obtain ⟨v, st₀, t, T', L, h0, X', hL, e1, e2, ⟨v2, hv, hro, hh, hz, hk, hu⟩, st⟩ := hr T hT X
  cases hv
  rw [h0] at hz hk hu
  rw [← e1] at hh hz hk hu
  have hI2 : HI g ts Γ mods s T'.heap (locs ++ L) := by
    refine ⟨hh, hz.trans hI.2.1, fun q hq => (hk q hq).trans (hI.2.2.1 q hq), fun q hq => ?_, fun q hq => (hI.2.2.2.2 q hq).trans ((hu q hq).mono hm)⟩
    rcases List.mem_append.mp hq with h | h
    · exact hI.2.2.2.1 q h
    · exact hL q h
  obtain ⟨t2, a1, b1⟩ := kk v T'.heap (locs ++ L) hro hI2 hu T' rfl X'
  exact ⟨t2, st t2 a1, b1⟩
theorem VR2 {a b : AV} : ∀ {avs : List Value}, VR g Γ [a, b] avs → ∃ v1 v2, avs = [v1, v2] ∧ avi g Γ a v1 ∧ avi g Γ b v2
  | [v1, v2], h => ⟨v1, v2, rfl, h.1, h.2.1⟩
  | [], h => h.elim
  | [_], h => h.2.elim
  | _ :: _ :: _ :: _, h => h.2.2.elim
theorem mn_ok {a b : AV} {x y : Int32} (hx : avi g Γ a (.int x)) (hy : avi g Γ b (.int y)) : avi g Γ (0, imin a.2.1 b.2.1, imin a.2.2 b.2.2) (.int (if y < x then y else x)) := by
  obtain ⟨-, x1, x2⟩ := hx
  obtain ⟨-, y1, y2⟩ := hy
  have h1 := imin_le a.2.1 b.2.1
  by_cases h : y < x
  · rw [if_pos h]
    have h := Int32.lt_iff_toInt_lt.mp h
    exact ⟨rfl, Int.le_trans h1.2 y1, imin_l (by omega) y2⟩
  · rw [if_neg h]
    have h := Int32.le_iff_toInt_le.mp (Int32.not_lt.mp h)
    exact ⟨rfl, Int.le_trans h1.1 x1, imin_l x2 (by omega)⟩
theorem mx_ok {a b : AV} {x y : Int32} (hx : avi g Γ a (.int x)) (hy : avi g Γ b (.int y)) : avi g Γ (0, imax a.2.1 b.2.1, imax a.2.2 b.2.2) (.int (if x < y then y else x)) := by
  obtain ⟨-, x1, x2⟩ := hx
  obtain ⟨-, y1, y2⟩ := hy
  have h1 := imax_ge a.2.2 b.2.2
  by_cases h : x < y
  · rw [if_pos h]
    have h := Int32.lt_iff_toInt_lt.mp h
    exact ⟨rfl, imax_u (by omega) y1, Int.le_trans y2 h1.2⟩
  · rw [if_neg h]
    have h := Int32.le_iff_toInt_le.mp (Int32.not_lt.mp h)
    exact ⟨rfl, imax_u x1 (by omega), Int.le_trans x2 h1.1⟩
theorem VR5 {a b c d e : AV} : ∀ {avs : List Value}, VR g Γ [a, b, c, d, e] avs → ∃ v1 v2 v3 v4 v5, avs = [v1, v2, v3, v4, v5] ∧ avi g Γ a v1 ∧ avi g Γ b v2 ∧ avi g Γ c v3 ∧ avi g Γ d v4 ∧ avi g Γ e v5
  | [v1, v2, v3, v4, v5], h => ⟨v1, v2, v3, v4, v5, rfl, h.1, h.2.1, h.2.2.1, h.2.2.2.1, h.2.2.2.2.1⟩
  | [], h => h.elim
  | [_], h => h.2.elim
  | [_, _], h => h.2.2.elim
  | [_, _, _], h => h.2.2.2.elim
  | [_, _, _, _], h => h.2.2.2.2.elim
  | _ :: _ :: _ :: _ :: _ :: _ :: _, h => h.2.2.2.2.2.elim
theorem k_cwVN {A : Nat → Prop} {index maxL n d mc ms : Nat} {y : MethodName} {host C : String} {bytes : ByteArray} {ret : Option FieldType} (X : CTX p l m meth c cc nL s args own g A) (hV : LVN own index host C y bytes maxL ret n) (hR : d + 1 ≤ R.frames ∧ 8 + (maxL + 11) + 40 * d ≤ R.locals) : va_CN R s args own index y host bytes maxL ret (WW y bytes maxL ret) (RM d mc ms) mc ms n ∧ (Cond.instanceMethod y).before args s = true ∧ (Cond.selects C y y).before args s = true := by
  obtain ⟨h1, h2, h3, h4, h5, h6, h7, h8⟩ := hV
  exact ⟨va_cnB n X.2.2.2.2.1 (good_ww h5) rfl rfl rfl (X.2.2.2.2.2.1.2.1 _ h1) (X.2.2.2.2.1 _ h4) ⟨h6, h7, h8⟩ hR, X.2.2.2.2.1 _ h2, X.2.2.2.2.1 _ h3⟩
theorem HI_locs {locs' : List Loc} (h : HI g ts Γ mods s H locs) (hl : ∀ l ∈ locs', Γ l.base ≠ 0) : HI g ts Γ mods s H locs' := ⟨h.1, h.2.1, h.2.2.1, hl, h.2.2.2.2⟩
theorem i32_nn0 {z : Int32} {k : Nat} (h : z.toInt = (k : Int)) : z.toNatClampNeg = k ∧ ¬ z < 0 := by
  refine ⟨?_, fun hz => ?_⟩
  · show z.toInt.toNat = k
    rw [h]; rfl
  · have := Int32.lt_iff_toInt_lt.mp hz
    rw [h] at this
    have e0 : (0 : Int32).toInt = 0 := rfl
    rw [e0] at this
    omega
theorem h_copy (X : CTX p l m meth c cc nL s args own g (AA Γ s.heap.size)) (hI : HI g ts Γ mods s H locs) (hC : CPY own idx0) {t1 t2 k n1 n2 q0 q1 : Nat} {a1 a2 : AV} (hq0 : Γ q0 = t1) (hz0 : Γ q0 ≠ 0) (hq1 : Γ q1 = t2) (hz1 : Γ q1 ≠ 0) (ht1 : ts.1 t1 = .inr (1, n1, a1)) (ht2 : ts.1 t2 = .inr (1, n2, a2)) (hk1 : k ≤ n1) (hk2 : k ≤ n2) (hle : avle a1 a2 = true) (hm : mdg mods t2 0 = true) {sp0 dp0 n0 : Int32} (hsp : sp0.toInt = 0) (hdp : dp0.toInt = 0) (hn0 : n0.toInt = (k : Int)) (hls : ls.size = nL) (hR : 1 ≤ R.frames ∧ 40 ≤ R.locals) (hroom : (rest.map fun v => v.category).sum ≤ 8) (hdg : decode cc pc = .ok (.invokestatic idx0, 3))
    (kk : ∀ (H1 : Heap) (locs1 : List Loc), HI g ts Γ mods s H1 locs1 → Un g ts Γ [(t2, 0)] H H1 → W p l e R s m args below meth c H1 locs1 cells slots Q (F0 m (pc + 3) ls rest)) : W p l e R s m args below meth c H locs cells slots Q (F0 m pc ls (.int n0 :: .int dp0 :: .ref q1 :: .int sp0 :: .ref q0 :: rest)) := by
  obtain ⟨⟨n1', f⟩, hP0, e1, hA0⟩ := h_at (q := q0) hI.1 hz0 (by rw [hq0]; exact ht1)
  obtain ⟨⟨n2', f2⟩, hP1, e2, hA1⟩ := h_at (q := q1) hI.1 hz1 (by rw [hq1]; exact ht2)
  subst e1 e2
  obtain ⟨hC1, hC2, hC3, hC4⟩ := hC
  obtain ⟨sp1, sp2⟩ := i32_nn0 (k := 0) hsp
  obtain ⟨dp1, dp2⟩ := i32_nn0 (k := 0) hdp
  obtain ⟨nn1, nn2⟩ := i32_nn0 hn0
  have fi : ∃ f' : Nat → Int32, f = .inl f' ∧ ∀ j : Nat, j < n1' → avi g Γ a1 (.int (f' j)) := by
    rcases f with f | f | f | f | f
    · exact ⟨f, rfl, hA0.2⟩
    · cases (show (1 : Nat) = 2 from hA0)
    · exact hA0.elim
    · exact hA0.elim
    · rcases hA0.1 with h | h <;> cases h
  have fj : ∃ f' : Nat → Int32, f2 = .inl f' ∧ (1 = 0 ∨ 1 = 1 ∨ 1 = 3) ∧ ∀ j : Nat, j < n2' → avi g Γ a2 (.int (f' j)) := by
    rcases f2 with f | f | f | f | f
    · exact ⟨f, rfl, hA1.1, hA1.2⟩
    · cases (show (1 : Nat) = 2 from hA1)
    · exact hA1.elim
    · exact hA1.elim
    · rcases hA1.1 with h | h <;> cases h
  obtain ⟨f, rfl, hf⟩ := fi
  obtain ⟨f2, rfl, hf0, hf2⟩ := fj
  intro T hT Xs
  have hc0 : H[q0]? = some (vp_cell (g.2.1 1) (n1', .inl f)) := hP0 0 _ rfl
  have hc1 : H[q1]? = some (vp_cell (g.2.1 1) (n2', .inl f2)) := hP1 0 _ rfl
  have hKX := X.2.2.2.2.2.1.1
  have hnf : nativeFrameWords "java/lang/System" "arraycopy" 5 = 7 := by decide +kernel
  obtain ⟨-, k0, hk0, cm0, hkk0⟩ := (hKX.2 1 _ rfl).1 n1' (fun j => .int (f j))
  obtain ⟨-, k1, hk1', cm1, hkk1⟩ := (hKX.2 1 _ rfl).1 n2' (fun j => .int (f2 j))
  obtain ⟨vm', X', step⟩ := Xs.arraycopy X.1 X.2.2.2.1 (X.2.2.2.2.1 _ hC1) (X.2.2.2.2.1 _ hC2) (X.2.2.2.2.1 _ hC3) (X.2.2.2.2.1 _ hC4) (src := q0) (dst := q1) (cs := vp_cell (g.2.1 1) (n1', .inl f)) (cd := vp_cell (g.2.1 1) (n2', .inl f2)) (srcPos := sp0) (destPos := dp0) (n := n0) (by rw [hT]; exact hc0) (by rw [hT]; exact hc1)
    (fun _ h => by cases h) (fun _ h => by cases h) (fun h => by cases h) (fun h => by cases h) hk0 hk1' hkk0 hkk1 (by simp [show refKind FieldType.int = false from rfl]) sp2 dp2 nn2
    (by rw [hsp, hn0]; show ¬ _ > ((arrV (g.2.1 1) n1' (fun j => .int (f j))).slots.size : Int); rw [arrV_size]; omega)
    (by rw [hdp, hn0]; show ¬ _ > ((arrV (g.2.1 1) n2' (fun j => .int (f2 j))).slots.size : Int); rw [arrV_size]; omega)
    (fun vm₁ _ i hi => by
      have e : (vp_cell (g.2.1 1) (n1', .inl f)).slots.getD (sp0.toNatClampNeg + i) .null = .int (f (sp0.toNatClampNeg + i)) := by
        show (arrV (g.2.1 1) n1' (fun j => .int (f j))).slots.getD _ _ = _
        rw [Array.getD_eq_getD_getElem?, arrV_read _ _ (by omega)]
        rfl
      refine ⟨?_, ?_⟩
      · rw [e]; rfl
      · rw [e]; exact trivial)
    (g := F0 m pc ls (.int n0 :: .int dp0 :: .ref q1 :: .int sp0 :: .ref q0 :: rest)) rfl (by rw [X.2.2.1]; exact hls) (rest := rest) rfl (by rw [X.2.1]; exact hdg) hR.1 (by show 2 * 0 + _ + (nativeFrameWords "java/lang/System" "arraycopy" 5 + 11) ≤ _; rw [hnf]; omega)
  have e1 : copied (vp_cell (g.2.1 1) (n1', .inl f)) (vp_cell (g.2.1 1) (n2', .inl f2)) sp0 dp0 n0 = vp_cell (g.2.1 1) (n2', .inl (va_cpy f f2 sp0.toNatClampNeg dp0.toNatClampNeg n0.toNatClampNeg)) := va_copied (fun z => .int z) (g.2.1 1) (g.2.1 1) f f2 (by rw [sp1, nn1]; omega)
  rw [e1] at X' step
  have hlt : q1 < H.size := (Array.getElem?_eq_some_iff.mp hc1).1
  have hheap : ((T.setVm vm').setCell q1 (vp_cell (g.2.1 1) (n2', .inl (va_cpy f f2 sp0.toNatClampNeg dp0.toNatClampNeg n0.toNatClampNeg)))).heap = H.setIfInBounds q1 (vp_cell (g.2.1 1) (n2', .inl (va_cpy f f2 sp0.toNatClampNeg dp0.toNatClampNeg n0.toNatClampNeg))) := by rw [← hT]; rfl
  have oq : ∀ q : Nat, q ≠ q1 → (H.setIfInBounds q1 (vp_cell (g.2.1 1) (n2', .inl (va_cpy f f2 sp0.toNatClampNeg dp0.toNatClampNeg n0.toNatClampNeg))))[q]? = H[q]? := fun q hq => by simp [Array.getElem?_setIfInBounds, Ne.symm hq]
  have hself : (H.setIfInBounds q1 (vp_cell (g.2.1 1) (n2', .inl (va_cpy f f2 sp0.toNatClampNeg dp0.toNatClampNeg n0.toNatClampNeg))))[q1]? = some (vp_cell (g.2.1 1) (n2', .inl (va_cpy f f2 sp0.toNatClampNeg dp0.toNatClampNeg n0.toNatClampNeg))) := by simp [Array.getElem?_setIfInBounds, hlt]
  have hWR := hI.wr (j := 0) hz1 (H1 := H.setIfInBounds q1 (vp_cell (g.2.1 1) (n2', .inl (va_cpy f f2 sp0.toNatClampNeg dp0.toNatClampNeg n0.toNatClampNeg)))) (by simp) oq (by
      unfold cok
      rw [hq1, ht2]
      refine ⟨_, hself, rfl, hf0, fun j hj => ?_⟩
      unfold va_cpy
      split
      · exact avle_ok hle (hf _ (by omega))
      · exact hf2 j hj) (k := 0) (by rw [hq1]; exact hm) (by
      unfold Un1
      rw [hq1, ht2]
      intro h
      rw [md_self] at h; cases h)
  have hbases : ∀ (ll : List Loc), (∀ z ∈ ll, z.base = q1) → ∀ z ∈ locs ++ ll, Γ z.base ≠ 0 := fun ll h z hz => by
    rcases List.mem_append.mp hz with h1 | h1
    · exact hI.2.2.2.1 z h1
    · rw [h z h1]; exact hz1
  obtain ⟨t, b1, b2⟩ := kk _ _ (HI_locs hWR.1 (hbases _ (fun z hz => by
    obtain ⟨y, -, hy⟩ := List.mem_map.mp hz
    rw [← hy]))) (by have := hWR.2; rw [hq1] at this; exact this) _ hheap X'
  exact ⟨t, step t b1, b2⟩
theorem h_call (X : CTX p l m meth c cc nL s args own g (AA Γ s.heap.size)) (hI : HI g ts Γ mods s H locs) {kd idx na ci dd : Nat} {sp : SPEC} (hC : COK l g ts own kd idx na ci sp) (hR : dd ≤ R.frames ∧ 40 * dd ≤ R.locals ∧ cells ≤ R.cells ∧ slots ≤ R.slots) (hd : sp.1 + 1 ≤ dd) (hls : ls.size = nL) {vs avs rs : List Value} (hvs : vs = avs.reverse ++ rs) (hlen : avs.length = bif Nat.beq kd 0 then na + 1 else na) (hU : UQ ts Γ) (hpf : PFT g ts Γ avs sp.2.2.2.2.2 H) (hV : VR g Γ sp.2.1 avs) (hrecv : kd = 0 → ∃ (b : Nat) (As : List Value) (fs : List AV), avs = .ref b :: As ∧ Γ b ≠ 0 ∧ ts.1 (Γ b) = .inl (ci, fs)) (hm : ∀ t k, md sp.2.2.2.2.1 t k = true → md mods t k = true) (hroom : (rs.map fun v => v.category).sum ≤ 8) (hdg : decode cc pc = .ok (bif Nat.beq kd 0 then .invokevirtual idx else .invokestatic idx, 3))
    (kk : ∀ (v : Option Value) (H1 : Heap) (locs1 : List Loc), RO g Γ sp avs v → HI g ts Γ mods s H1 locs1 → Un g ts Γ sp.2.2.2.2.1 H H1 → W p l e R s m args below meth c H1 locs1 cells slots Q (F0 m (pc + 3) ls (v.toList ++ rs))) : W p l e R s m args below meth c H locs cells slots Q (F0 m pc ls vs) := by
  rcases hC with ⟨y, cb, n, r, hM, hn, hk⟩ | ⟨rfl, rfl, hcp, t1, t2, k, n1, n2, a1, a2, rfl, h1, h2, h3, h4, h5, h6, h7⟩ | ⟨rfl, a, b, ha, hb, hmm⟩
  · have hRm : sp.1 + 1 ≤ R.frames ∧ 8 + (n + 11) + 40 * sp.1 ≤ R.locals := ⟨by omega, by omega⟩
    have obj : kd = 0 → ∀ (C : String) (T : u_T) (N : Nat), CLS[ci]? = some (C, T, N) → ∃ (b : Nat) (As : List Value), avs = .ref b :: As ∧ ∃ cell : Cell, H[b]? = some cell ∧ cell.vm.isStatics = false ∧ s.vm.findClass C = some cell.cls := by
      intro hkd C T N hci
      obtain ⟨b, As, fs, rfl, hb, ht⟩ := hrecv hkd
      have hc := hI.1.1 b hb
      unfold cok at hc
      rw [ht] at hc
      obtain ⟨ws, h1, h2⟩ := hc
      have hP : va_P g.1 CLS [(b, .inr (ci, ws))] H := fun j r hr => by
        cases j with
        | zero => cases hr; exact h1
        | succ j => cases hr
      exact ⟨b, As, rfl, va_recv (q0 := 0) X.2.2.2.2.2.1.1 hP hci rfl⟩
    rcases hk with ⟨rfl, C, T, N, hl, hci⟩ | ⟨rfl, host, C, T, N, hl, hci⟩ | ⟨rfl, hl⟩ | ⟨rfl, host, hl⟩
    · obtain ⟨b, As, rfl, hrc⟩ := obj rfl C T N hci
      have hstk : vs = As.reverse ++ .ref b :: rs := by rw [hvs, List.reverse_cons, List.append_assoc]; rfl
      subst hstk
      exact s_ret (va_runV (As := As) (rest := rs) ⟨X.1, X.2.1, X.2.2.1, X.2.2.2.1, X.2.2.2.2.1⟩ (hM Γ _ hU hV) (k_cwV X hl hRm) ⟨SPRE.blind, hrc, fun U hU hWm => ⟨rfl, s_pre X hI hpf U hU hWm⟩⟩ rfl (Nat.succ.inj hlen) hls rfl (lv_room hroom) hdg ⟨hR.2.2.1, hR.2.2.2⟩) hI hm kk
    · obtain ⟨b, As, rfl, hrc⟩ := obj rfl C T N hci
      have hstk : vs = As.reverse ++ .ref b :: rs := by rw [hvs, List.reverse_cons, List.append_assoc]; rfl
      subst hstk
      exact s_ret (va_runVN (As := As) (rest := rs) ⟨X.1, X.2.1, X.2.2.1, X.2.2.2.1, X.2.2.2.2.1⟩ (hM Γ _ hU hV) (k_cwVN X hl hRm) ⟨SPRE.blind, hrc, fun U hU hWm => ⟨rfl, s_pre X hI hpf U hU hWm⟩⟩ rfl (Nat.succ.inj hlen) hls rfl (lv_room hroom) hdg ⟨hR.2.2.1, hR.2.2.2⟩) hI hm kk
    · subst hvs
      exact s_ret (va_runS (As := avs) (rest := rs) ⟨X.1, X.2.1, X.2.2.1, X.2.2.2.1, X.2.2.2.2.1⟩ (hM Γ _ hU hV) (k_cwS X hl hRm) ⟨SPRE.blind, fun U hU hWm => ⟨rfl, s_pre X hI hpf U hU hWm⟩⟩ rfl hlen hls rfl (lv_room hroom) hdg ⟨hR.2.2.1, hR.2.2.2⟩) hI hm kk
    · subst hvs
      exact s_ret (va_runSN (As := avs) (rest := rs) ⟨X.1, X.2.1, X.2.2.1, X.2.2.2.1, X.2.2.2.2.1⟩ (hM Γ _ hU hV) (k_cwSN X hl hRm) ⟨SPRE.blind, fun U hU hWm => ⟨rfl, s_pre X hI hpf U hU hWm⟩⟩ rfl hlen hls rfl (lv_room hroom) hdg ⟨hR.2.2.1, hR.2.2.2⟩) hI hm kk
  · obtain ⟨v1, v2, v3, v4, v5, rfl, w1, w2, w3, w4, w5⟩ := VR5 (show VR g Γ [_, _, _, _, _] avs from hV)
    · obtain ⟨q0, rfl, q01, q02⟩ := avi_ref rfl w1
      obtain ⟨sp0, rfl, s1, s2⟩ := avi_int rfl w2
      obtain ⟨q1, rfl, q11, q12⟩ := avi_ref rfl w3
      obtain ⟨dp0, rfl, d1, d2⟩ := avi_int rfl w4
      obtain ⟨n0, rfl, z1, z2⟩ := avi_int rfl w5
      subst hvs
      have hmg : mdg mods t2 0 = true := by
        unfold mdg
        rw [hm t2 0 (md_self t2 0), h7]; rfl
      have hd' : 2 + 1 ≤ dd := hd
      exact h_copy X hI hcp (show Γ q0 = t1 from q01) q02 (show Γ q1 = t2 from q11) q12 h1 h2 h3 h4 h6 hmg (Int.le_antisymm s2 s1) (Int.le_antisymm d2 d1) (Int.le_antisymm z2 z1) hls ⟨by omega, by omega⟩ hroom hdg (fun H1 locs1 hI1 hUn => kk none H1 locs1 rfl hI1 hUn)
  · have go : VR g Γ [a, b] avs → 2 ≤ dd → kd ≠ 0 → ((kd = 4 ∧ MNX own idx ∧ sp = mnsp a b) ∨ (kd = 5 ∧ MXX own idx ∧ sp = mxsp a b)) → W p l e R s m args below meth c H locs cells slots Q (F0 m pc ls vs) := by
      intro hV hdd hkd hmm
      obtain ⟨v1, v2, rfl, w1, w2⟩ := VR2 hV
      obtain ⟨x, rfl, -⟩ := avi_int (by rw [ha]; rfl) w1
      obtain ⟨y, rfl, -⟩ := avi_int (by rw [hb]; rfl) w2
      subst hvs
      have hk0 : Nat.beq kd 0 = false := beq_ne (Ne.symm hkd)
      rw [hk0] at hdg
      rcases hmm with ⟨-, ⟨m1, m2, m3, m4⟩, rfl⟩ | ⟨-, ⟨m1, m2, m3, m4⟩, rfl⟩
      · exact va_mmin (rest := rs) X.1 X.2.1 (by rw [X.2.2.1]; exact hls.symm) X.2.2.2.1 (X.2.2.2.2.1 _ m1) (X.2.2.2.2.1 _ m2) (X.2.2.2.2.1 _ m3) (X.2.2.2.2.1 _ m4) (by omega) (by omega) hR.2.2.1 hR.2.2.2 hdg (kk (some _) H locs ⟨mn_ok w1 w2, fun q hq => by cases hq⟩ hI (fun q _ => Un1.same rfl))
      · exact va_mmax (rest := rs) X.1 X.2.1 (by rw [X.2.2.1]; exact hls.symm) X.2.2.2.1 (X.2.2.2.2.1 _ m1) (X.2.2.2.2.1 _ m2) (X.2.2.2.2.1 _ m3) (X.2.2.2.2.1 _ m4) (by omega) (by omega) hR.2.2.1 hR.2.2.2 hdg (kk (some _) H locs ⟨mx_ok w1 w2, fun q hq => by cases hq⟩ hI (fun q _ => Un1.same rfl))
    rcases hmm with ⟨hkd, hmx, hsp⟩ | ⟨hkd, hmx, hsp⟩
    · exact go (by rw [hsp] at hV; exact hV) (by rw [hsp] at hd; exact hd) (by omega) (Or.inl ⟨hkd, hmx, hsp⟩)
    · exact go (by rw [hsp] at hV; exact hV) (by rw [hsp] at hd; exact hd) (by omega) (Or.inr ⟨hkd, hmx, hsp⟩)
/-- the kinds of return: 0 int, 1 boolean, 2 long, 3 nothing, 4 a reference -/
def RTY (rk : Nat) (r : Option FieldType) : Prop := (rk = 0 ∧ r = some .int) ∨ (rk = 1 ∧ r = some .boolean) ∨ (rk = 2 ∧ r = some .long) ∨ (rk = 3 ∧ r = none) ∨ (rk = 4 ∧ ((∃ n, r = some (.object n)) ∨ ∃ t, r = some (.array t)))
theorem s_end {sp : SPEC} {As : List Value} {v : Option Value} (hI : HI g ts Γ sp.2.2.2.2.1 s H locs) (hro : RO g Γ sp As v) (t : State) (ht : t.heap = H) : SQ g ts Γ sp As args s (.returned v) t :=
  ⟨v, rfl, hro, by rw [ht]; exact hI.1, by rw [ht]; exact hI.2.1, by rw [ht]; exact hI.2.2.1, by rw [ht]; exact hI.2.2.2.2⟩
theorem h_ret (X : CTX p l m meth c cc nL s args own g (AA Γ s.heap.size)) {sp : SPEC} {As : List Value} {r : Option FieldType} {rk : Nat} (hI : HI g ts Γ sp.2.2.2.2.1 s H locs) (hQ : MQ below (SQ g ts Γ sp As) args s cells slots (fun q => Γ q ≠ 0) = Q) (hr : meth.sig.returnType = r) (hrt : RTY rk r) {v : Value} {a : AV} {instr : Jvm.ClassFile.Instr} (hv : avi g Γ a v) (hro : RO g Γ sp As (some v)) (hk : (rk = 0 ∧ instr = .ireturn ∧ a.1 = 0) ∨ (rk = 1 ∧ instr = .ireturn ∧ a.1 = 0 ∧ 0 ≤ a.2.1 ∧ a.2.2 ≤ 1) ∨ (rk = 2 ∧ instr = .lreturn ∧ a.1 = 3) ∨ (rk = 4 ∧ instr = .areturn ∧ a.1 ≠ 0 ∧ a.1 ≠ 3)) (hdg : decode cc pc = .ok (instr, 1)) : W p l e R s m args below meth c H locs cells slots Q (F0 m pc ls [v]) := by
  subst hQ
  rcases hk with ⟨rfl, rfl, ha⟩ | ⟨rfl, rfl, ha, a0, a1⟩ | ⟨rfl, rfl, ha⟩ | ⟨rfl, rfl, ha, ha3⟩
  · obtain ⟨x, rfl, -⟩ := avi_int (by rw [ha]; rfl) hv
    rcases hrt with ⟨-, rfl⟩ | ⟨h, -⟩ | ⟨h, -⟩ | ⟨h, -⟩ | ⟨h, -⟩
    · exact W.iret X.1 X.2.1 hr (fun t ht _ => s_end hI hro t ht) hI.2.2.2.1 hdg X.2.2.2.2.2.2.2.2
    all_goals cases h
  · obtain ⟨x, rfl, h1, h2⟩ := avi_int (by rw [ha]; rfl) hv
    rcases hrt with ⟨h, -⟩ | ⟨-, rfl⟩ | ⟨h, -⟩ | ⟨h, -⟩ | ⟨h, -⟩
    · cases h
    · exact W.zret X.1 X.2.1 hr (nar_z (Int.le_trans a0 h1) (Int.le_trans h2 a1)) (fun t ht _ => s_end hI hro t ht) hI.2.2.2.1 hdg X.2.2.2.2.2.2.2.2
    all_goals cases h
  · obtain ⟨x, rfl⟩ := avi_long (by rw [ha]; rfl) hv
    rcases hrt with ⟨h, -⟩ | ⟨h, -⟩ | ⟨-, rfl⟩ | ⟨h, -⟩ | ⟨h, -⟩
    · cases h
    · cases h
    · exact W.lret X.1 X.2.1 hr (fun t ht _ => s_end hI hro t ht) hI.2.2.2.1 hdg X.2.2.2.2.2.2.2.2
    all_goals cases h
  · have hv2 : v = .null ∨ ∃ b, v = .ref b := by
      cases v with
      | int x => exact absurd hv.1 ha
      | long x => exact absurd hv.1 ha3
      | ref q => exact Or.inr ⟨q, rfl⟩
      | null => exact Or.inl rfl
      | float x => exact absurd hv id
      | double x => exact absurd hv id
      | retAddr x => exact absurd hv id
    rcases hrt with ⟨h, -⟩ | ⟨h, -⟩ | ⟨h, -⟩ | ⟨h, -⟩ | ⟨-, h⟩
    · cases h
    · cases h
    · cases h
    · cases h
    · rcases h with ⟨n, rfl⟩ | ⟨t, rfl⟩
      · exact W.aret X.1 X.2.1 hr (Or.inl ⟨n, rfl⟩) hv2 (fun t ht _ => s_end hI hro t ht) hI.2.2.2.1 hdg X.2.2.2.2.2.2.2.2
      · exact W.aret X.1 X.2.1 hr (Or.inr ⟨t, rfl⟩) hv2 (fun t ht _ => s_end hI hro t ht) hI.2.2.2.1 hdg X.2.2.2.2.2.2.2.2
theorem h_vret (X : CTX p l m meth c cc nL s args own g (AA Γ s.heap.size)) {sp : SPEC} {As : List Value} {r : Option FieldType} (hI : HI g ts Γ sp.2.2.2.2.1 s H locs) (hQ : MQ below (SQ g ts Γ sp As) args s cells slots (fun q => Γ q ≠ 0) = Q) (hr : meth.sig.returnType = r) (hrt : RTY 3 r) (h7 : sp.2.2.1.1 = 7) (hdg : decode cc pc = .ok (.return_, 1)) : W p l e R s m args below meth c H locs cells slots Q (F0 m pc ls []) := by
  subst hQ
  rcases hrt with ⟨h, -⟩ | ⟨h, -⟩ | ⟨h, -⟩ | ⟨-, rfl⟩ | ⟨h, -⟩
  · cases h
  · cases h
  · cases h
  · exact W.vret X.1 X.2.1 hr (fun t ht _ => s_end (v := none) (As := As) hI h7 t ht) hI.2.2.2.1 hdg X.2.2.2.2.2.2.2.2
  · cases h
end

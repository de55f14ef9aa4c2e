/-! rows of this proof alone: one list of words for every contract, one context, one world -/
abbrev CLS : List vw_C := [(RX0, TX0, 7), (RX1, TX1, 5), (RX2, TX2, 2), (RX3, TX3, 3), (RX4, TX4, 9), (RX5, TX5, 6), (RX6, TX6, 5), (RX7, TX7, 17), (RX8, TX8, 3), (RX9, TX9, 3), (RX10, TX10, 16), (RX11, TX11, 14), (RX12, TX12, 64)]
/-- the tables' words that hold on warmed tables too -/
def BW : List Cond := lw_tbl.filter goodWord
/-- the links between nest mates -/
def isNest : Cond → Bool
  | .fieldLinkNest .. => true
  | .methodLinkNest .. => true
  | _ => false
def NWS : List Cond := lw_tbl.filter isNest
theorem BW_good {w : Cond} (h : w ∈ BW) : goodWord w = true := (List.mem_filter.mp h).2
theorem BW_tbl {w : Cond} (h : w ∈ BW) : w ∈ lw_tbl := (List.mem_filter.mp h).1
theorem bw {w : Cond} (h : w ∈ lw_tbl) (g : goodWord w = true) : w ∈ BW := List.mem_filter.mpr ⟨h, g⟩
theorem nw {w : Cond} (h : w ∈ lw_tbl) (g : isNest w = true) : w ∈ NWS := List.mem_filter.mpr ⟨h, g⟩
theorem tb1 {w : Cond} (i : Nat) (h : tables_1_1[i]? = some w) : w ∈ lw_tbl := List.mem_append_right _ (List.mem_append_left _ (List.mem_of_getElem? h))
theorem tb2 {w : Cond} (i : Nat) (h : tables_1_2[i]? = some w) : w ∈ lw_tbl := List.mem_append_right _ (List.mem_append_right _ (List.mem_append_left _ (List.mem_of_getElem? h)))
theorem tb3 {w : Cond} (i : Nat) (h : tables_1_3[i]? = some w) : w ∈ lw_tbl := List.mem_append_right _ (List.mem_append_right _ (List.mem_append_right _ (List.mem_append_left _ (List.mem_of_getElem? h))))
theorem tb4 {w : Cond} (i : Nat) (h : tables_1_4[i]? = some w) : w ∈ lw_tbl := List.mem_append_right _ (List.mem_append_right _ (List.mem_append_right _ (List.mem_append_right _ (List.mem_append_left _ (List.mem_of_getElem? h)))))
theorem tb5 {w : Cond} (i : Nat) (h : tables_1_5[i]? = some w) : w ∈ lw_tbl := List.mem_append_right _ (List.mem_append_right _ (List.mem_append_right _ (List.mem_append_right _ (List.mem_append_right _ (List.mem_append_left _ (List.mem_of_getElem? h))))))
theorem tb6 {w : Cond} (i : Nat) (h : tables_1_6[i]? = some w) : w ∈ lw_tbl := List.mem_append_right _ (List.mem_append_right _ (List.mem_append_right _ (List.mem_append_right _ (List.mem_append_right _ (List.mem_append_right _ (List.mem_append_left _ (List.mem_of_getElem? h)))))))
theorem tb7 {w : Cond} (i : Nat) (h : tables_1_7[i]? = some w) : w ∈ lw_tbl := List.mem_append_right _ (List.mem_append_right _ (List.mem_append_right _ (List.mem_append_right _ (List.mem_append_right _ (List.mem_append_right _ (List.mem_append_right _ (List.mem_append_left _ (List.mem_of_getElem? h))))))))
theorem tb8 {w : Cond} (i : Nat) (h : tables_1_8[i]? = some w) : w ∈ lw_tbl := List.mem_append_right _ (List.mem_append_right _ (List.mem_append_right _ (List.mem_append_right _ (List.mem_append_right _ (List.mem_append_right _ (List.mem_append_right _ (List.mem_append_right _ (List.mem_of_getElem? h))))))))
theorem sl {y : MethodName} (n : Nat) (h : (y, n) ∈ lw_privs) : Cond.selects y.cls y y ∈ lw_tbl := List.mem_append_left _ (List.mem_map.mpr ⟨(y, n), h, rfl⟩)
theorem sl1 {y : MethodName} {n : Nat} (i : Nat) (h : lw_privs_1[i]? = some (y, n)) : Cond.selects y.cls y y ∈ lw_tbl := sl n (List.mem_append_left _ (List.mem_of_getElem? h))
theorem sl2 {y : MethodName} {n : Nat} (i : Nat) (h : lw_privs_2[i]? = some (y, n)) : Cond.selects y.cls y y ∈ lw_tbl := sl n (List.mem_append_right _ (List.mem_append_left _ (List.mem_of_getElem? h)))
theorem sl3 {y : MethodName} {n : Nat} (i : Nat) (h : lw_privs_3[i]? = some (y, n)) : Cond.selects y.cls y y ∈ lw_tbl := sl n (List.mem_append_right _ (List.mem_append_right _ (List.mem_append_left _ (List.mem_of_getElem? h))))
theorem sl4 {y : MethodName} {n : Nat} (i : Nat) (h : lw_privs_4[i]? = some (y, n)) : Cond.selects y.cls y y ∈ lw_tbl := sl n (List.mem_append_right _ (List.mem_append_right _ (List.mem_append_right _ (List.mem_append_left _ (List.mem_of_getElem? h)))))
theorem sl5 {y : MethodName} {n : Nat} (i : Nat) (h : lw_privs_5[i]? = some (y, n)) : Cond.selects y.cls y y ∈ lw_tbl := sl n (List.mem_append_right _ (List.mem_append_right _ (List.mem_append_right _ (List.mem_append_right _ (List.mem_append_left _ (List.mem_of_getElem? h))))))
theorem sl6 {y : MethodName} {n : Nat} (i : Nat) (h : lw_privs_6[i]? = some (y, n)) : Cond.selects y.cls y y ∈ lw_tbl := sl n (List.mem_append_right _ (List.mem_append_right _ (List.mem_append_right _ (List.mem_append_right _ (List.mem_append_right _ (List.mem_append_left _ (List.mem_of_getElem? h)))))))
theorem sl7 {y : MethodName} {n : Nat} (i : Nat) (h : lw_privs_7[i]? = some (y, n)) : Cond.selects y.cls y y ∈ lw_tbl := sl n (List.mem_append_right _ (List.mem_append_right _ (List.mem_append_right _ (List.mem_append_right _ (List.mem_append_right _ (List.mem_append_right _ (List.mem_of_getElem? h)))))))
/-- what every contract knows of the machine: the classes' slots, the arrays' classes, the tables' addresses -/
abbrev GG : Type := va_G × (Nat → ClassId) × Nat × Nat
abbrev TYS (g : GG) : List (ClassId × FieldType) := [(g.2.1 0, .byte), (g.2.1 1, .int), (g.2.1 2, .long), (g.2.1 3, .boolean), (g.2.1 4, .object RX10), (g.2.1 5, .object RX4)]
def KX (g : GG) (U : State) : Prop := va_K g.1 CLS (TYS g) U ∧ (∀ w ∈ NWS, va_Nw w U) ∧ va_AO RX10 U ∧ va_AO RX4 U
theorem KX.warm {g : GG} {s U : State} (hW : s.WarmedH U.vm) (h : KX g s) : KX g U := by
  refine ⟨va_K.moved hW.alike h.1, fun w hw => ?_, va_AO.moved hW.alike h.2.2.1, va_AO.moved hW.alike h.2.2.2⟩
  have h1 := h.2.1 w hw
  have h2 : isNest w = true := (List.mem_filter.mp hw).2
  cases w <;> first | exact va_Nw.warmF hW h1 | exact va_Nw.warmM hW h1 | cases h2
theorem KX.calling {g : GG} {U : State} {f : JFrame} {mk : MethodId} {a : Array Value} (h : KX g U) : KX g (U.calling f mk a) := by
  refine ⟨va_K.moved (u := U) (U := U.calling f mk a) (Vm.Alike.refl U.vm) h.1, fun w hw => ?_, va_AO.moved (u := U) (U := U.calling f mk a) (Vm.Alike.refl U.vm) h.2.2.1, va_AO.moved (u := U) (U := U.calling f mk a) (Vm.Alike.refl U.vm) h.2.2.2⟩
  have h1 := h.2.1 w hw
  have h2 : isNest w = true := (List.mem_filter.mp hw).2
  cases w <;> first | exact va_Nw.same rfl rfl h1 | cases h2
/-- the two tables of the class Trade -/
def fCA (j : Nat) : Value := .int (if j = 3 then 1 else if j = 4 then 1 else if j = 5 then 2 else 0)
def fCB (j : Nat) : Value := .int (if j = 0 then 1 else if j = 1 then 2 else if j = 2 then 3 else if j = 3 then 2 else 3)
def TB (g : GG) (A : Nat → Prop) (U : State) (H : Heap) : Prop :=
  (va_Z RX9 "COUPLE_A" "[I" (.ref g.2.2.1) A U H ∧ va_T .int g.2.2.1 6 fCA A U H) ∧ (va_Z RX9 "COUPLE_B" "[I" (.ref g.2.2.2) A U H ∧ va_T .int g.2.2.2 6 fCB A U H)
theorem TB.moved {g : GG} {A : Nat → Prop} {u U : State} {H : Heap} (hvm : u.vm.Alike U.vm) (h : TB g A u H) : TB g A U H := ⟨⟨h.1.1.moved hvm, h.1.2.moved hvm⟩, h.2.1.moved hvm, h.2.2.moved hvm⟩
theorem TB.kept {g : GG} {A : Nat → Prop} {U : State} {H H1 : Heap} (h : TB g A U H) (hq : ∀ a : Nat, a < H.size → ¬ A a → H1[a]? = H[a]?) : TB g A U H1 := ⟨⟨h.1.1.kept hq, h.1.2.kept hq⟩, h.2.1.kept hq, h.2.2.kept hq⟩
theorem TB.narrow {g : GG} {A B : Nat → Prop} {U : State} {H : Heap} (h : TB g A U H) (hAB : ∀ q, B q → A q) : TB g B U H := ⟨⟨h.1.1.narrow hAB, h.1.2.narrow hAB⟩, h.2.1.narrow hAB, h.2.2.narrow hAB⟩
/-- a method's start -/
def PRE (g : GG) (ws : va_W) (sz : Nat) : State → Prop := fun U => U.heap.size = sz ∧ va_P g.1 CLS ws U.heap ∧ KX g U ∧ va_D (fun _ => True) ws ∧ TB g (va_A ws sz) U U.heap
theorem PRE.blind {g : GG} {ws : va_W} {sz : Nat} {As : List Value} : FrameBlind (va_Pc As (PRE g ws sz)) := by
  intro a U f mk q
  obtain ⟨q0, q1, qP, qK, qD, qT⟩ := q
  exact ⟨q0, q1, qP, qK.calling, qD, TB.moved (u := U) (U := U.calling f mk a) (Vm.Alike.refl U.vm) qT⟩
/-- a method's end: the world behind it -/
abbrev BO (g : GG) (A : Nat → Prop) : va_W → State → Prop := fun u t => va_P g.1 CLS u t.heap ∧ va_D A u
abbrev RM (d mc ms : Nat) : Room := { frames := d, cells := mc, slots := ms, locals := 40 * d }
abbrev WW (y : MethodName) (c : ByteArray) (n : Nat) (r : Option FieldType) : List Cond := Cond.code y c n r :: BW
def MetI (l : Launch) (g : GG) (y : MethodName) (c : ByteArray) (n : Nat) (r : Option FieldType) (d mc ms : Nat) (As : List Value) (ws : va_W) (post : Int32 → va_W → Prop) : Prop :=
  ∀ sz, Met l y (WW y c n r) (RM d mc ms) (va_Pc As (PRE g ws sz)) (va_Qi post (BO g (va_A ws sz)) (va_A ws sz)) mc ms (va_A ws sz)
def MetL (l : Launch) (g : GG) (y : MethodName) (c : ByteArray) (n : Nat) (r : Option FieldType) (d mc ms : Nat) (As : List Value) (ws : va_W) (post : Int64 → va_W → Prop) : Prop :=
  ∀ sz, Met l y (WW y c n r) (RM d mc ms) (va_Pc As (PRE g ws sz)) (va_Ql post (BO g (va_A ws sz)) (va_A ws sz)) mc ms (va_A ws sz)
def MetV (l : Launch) (g : GG) (y : MethodName) (c : ByteArray) (n : Nat) (r : Option FieldType) (d mc ms : Nat) (As : List Value) (ws : va_W) (post : va_W → Prop) : Prop :=
  ∀ sz, Met l y (WW y c n r) (RM d mc ms) (va_Pc As (PRE g ws sz)) (va_Qv post (BO g (va_A ws sz)) (va_A ws sz)) mc ms (va_A ws sz)
def MetQ (l : Launch) (g : GG) (y : MethodName) (c : ByteArray) (n : Nat) (r : Option FieldType) (d mc ms : Nat) (As : List Value) (ws : va_W) (post : Option Nat → va_W → Prop) : Prop :=
  ∀ sz, Met l y (WW y c n r) (RM d mc ms) (va_Pc As (PRE g ws sz)) (va_Qq post (BO g (va_A ws sz)) (va_A ws sz)) mc ms (va_A ws sz)
/-- a method's frame and what it knows -/
def CTX (p : Program) (l : Launch) (m : MethodId) (meth : Method) (c : Code) (cc : ByteArray) (nL : Nat) (s : State) (args : Array Value) (own : String) (g : GG) (A : Nat → Prop) : Prop :=
  p.tables.exec = Jvm.exec ∧ c.code = cc ∧ c.maxLocals = nL ∧ s.vm.findClass own = some m.cls ∧ (∀ w ∈ BW, w.before args s = true) ∧ KX g s ∧ TB g A s s.heap ∧ (∀ q : Nat, s.heap.size ≤ q → A q) ∧ meth.locks = false
/-- the world: what the cells hold, that they are apart and the method's own, what has changed -/
def WD (g : GG) (A : Nat → Prop) (s : State) (H : Heap) (locs : List Loc) (ws : va_W) : Prop := va_P g.1 CLS ws H ∧ va_D A ws ∧ va_S A s.heap H locs
theorem WD.pick {g : GG} {A : Nat → Prop} {s : State} {H : Heap} {locs : List Loc} {ws ws' : va_W} (h : WD g A s H locs ws) (is : List Nat) (hn : va_nd is = true) (hs : is.map (fun i => ws[i]?) = ws'.map some) : WD g A s H locs ws' := by
  refine ⟨fun k q hk => ?_, h.2.1.sub is hn hs, h.2.2⟩
  have h1 : (is.map (fun i => ws[i]?))[k]? = some (some q) := by rw [hs, List.getElem?_map, hk]; rfl
  rw [List.getElem?_map] at h1
  cases hi : is[k]? with
  | none => rw [hi] at h1; cases h1
  | some i => rw [hi] at h1; exact h.1 i q (Option.some.inj h1)
/-- a class by its place in CLS: its words, its types -/
def CI (ci : Nat) (C : String) (T : u_T) (N : Nat) (ty : Nat → FieldType) : Prop := CLS[ci]? = some (C, T, N) ∧ (∀ w ∈ u_ws C T N, w ∈ BW) ∧ (∀ k, k < N → parseFieldDescriptor (T k).2.2.1 = some (ty k)) ∧ (∀ a, a < N → ∀ b, b < N → a ≠ b → (T a).2.1 ≠ (T b).2.1)
/-- the words of a call -/
def LV (own : String) (idx : Nat) (C : String) (y : MethodName) (c : ByteArray) (n : Nat) (r : Option FieldType) (k : Nat) : Prop :=
  Cond.methodLink own idx y ∈ BW ∧ Cond.instanceMethod y ∈ BW ∧ Cond.selects C y y ∈ BW ∧ Cond.initialized C ∈ BW ∧ Cond.code y c n r ∈ BW ∧ y.cls = C ∧ y.cls ≠ "java/lang/invoke/MethodHandle" ∧ y.cls ≠ "java/lang/invoke/VarHandle" ∧ (parseMethodDescriptor y.desc).map (fun d => d.parameters.length) = some k
def LST (own : String) (idx : Nat) (y : MethodName) (c : ByteArray) (n : Nat) (r : Option FieldType) (k : Nat) : Prop :=
  Cond.methodLink own idx y ∈ BW ∧ Cond.static y ∈ BW ∧ Cond.initialized y.cls ∈ BW ∧ Cond.code y c n r ∈ BW ∧ y.cls ≠ "java/lang/invoke/MethodHandle" ∧ y.cls ≠ "java/lang/invoke/VarHandle" ∧ (parseMethodDescriptor y.desc).map (fun d => d.parameters.length) = some k
def LSN (own : String) (idx : Nat) (host : String) (y : MethodName) (c : ByteArray) (n : Nat) (r : Option FieldType) (k : Nat) : Prop :=
  Cond.methodLinkNest own idx y host ∈ NWS ∧ Cond.static y ∈ BW ∧ Cond.initialized y.cls ∈ BW ∧ Cond.code y c n r ∈ BW ∧ y.cls ≠ "java/lang/invoke/MethodHandle" ∧ y.cls ≠ "java/lang/invoke/VarHandle" ∧ (parseMethodDescriptor y.desc).map (fun d => d.parameters.length) = some k
def LI (own : String) (idx : Nat) (y : MethodName) (c : ByteArray) (n : Nat) (k : Nat) : Prop :=
  Cond.methodLink own idx y ∈ BW ∧ Cond.instanceMethod y ∈ BW ∧ Cond.initialized y.cls ∈ BW ∧ Cond.code y c n none ∈ BW ∧ y.name = "<init>" ∧ y.cls ≠ "java/lang/invoke/MethodHandle" ∧ y.cls ≠ "java/lang/invoke/VarHandle" ∧ (parseMethodDescriptor y.desc).map (fun d => d.parameters.length) = some k
def LIN (own : String) (idx : Nat) (host : String) (y : MethodName) (c : ByteArray) (n : Nat) (k : Nat) : Prop :=
  Cond.methodLinkNest own idx y host ∈ NWS ∧ Cond.instanceMethod y ∈ BW ∧ Cond.initialized y.cls ∈ BW ∧ Cond.code y c n none ∈ BW ∧ y.name = "<init>" ∧ y.cls ≠ "java/lang/invoke/MethodHandle" ∧ y.cls ≠ "java/lang/invoke/VarHandle" ∧ (parseMethodDescriptor y.desc).map (fun d => d.parameters.length) = some k
theorem good_in {ws : List Cond} (h : ∀ w ∈ ws, w ∈ BW) : GoodIn BW ws := fun w hw => ⟨h w hw, good_of_word (BW_good (h w hw))⟩
theorem good_ww {y : MethodName} {c : ByteArray} {n : Nat} {r : Option FieldType} (h : Cond.code y c n r ∈ BW) : GoodIn BW (WW y c n r) := good_in fun w hw => by
  rcases List.mem_cons.mp hw with rfl | hw
  · exact h
  · exact hw
section
variable {p : Program} {l : Launch} {e : Env} {R : Room} {s : State} {m : MethodId} {args : Array Value} {below : List Frame} {meth : Method} {c : Code} {H : Heap} {locs : List Loc} {cells slots : Nat} {Q : State → Prop}
variable {cc : ByteArray} {pc nL : Nat} {ls : Array Slot} {rest : List Value} {own : String} {g : GG} {A : Nat → Prop} {ws ws' : va_W} {a : Nat}
-- fields
theorem r_get (X : CTX p l m meth c cc nL s args own g A) (hW : WD g A s H locs ws) (q0 : Nat) {ci : Nat} {C ref : String} {T : u_T} {N index : Nat} {ty : Nat → FieldType} (hc : CI ci C T N ty) (k : Nat) {fs : List Value} (he : ws[q0]? = some (a, .inr (ci, fs))) (hk : k < N) (hl : Cond.fieldLink own index ref (T k).2.1 (T k).2.2.1 ∈ BW) (href : (T k).1 = ref) {v : Value} (hv : fs[k]? = some v) (hdg : decode cc pc = .ok (.getfield index, 3))
    (kk : W p l e R s m args below meth c H locs cells slots Q (F0 m (pc + 3) ls (v :: rest))) : W p l e R s m args below meth c H locs cells slots Q (F0 m pc ls (.ref a :: rest)) :=
  va_get X.1 X.2.1 X.2.2.2.2.1 hc.2.1 X.2.2.2.1 X.2.2.2.2.2.1.1 hW.1 q0 he hc.1 k hk (X.2.2.2.2.1 _ hl) (fun _ h => by rw [← href]; exact h) hv hdg kk
theorem r_getN (X : CTX p l m meth c cc nL s args own g A) (hW : WD g A s H locs ws) (q0 : Nat) {ci : Nat} {C ref host : String} {T : u_T} {N index : Nat} {ty : Nat → FieldType} (hc : CI ci C T N ty) (k : Nat) {fs : List Value} (he : ws[q0]? = some (a, .inr (ci, fs))) (hk : k < N) (hl : Cond.fieldLinkNest own index ref (T k).2.1 (T k).2.2.1 host ∈ NWS) (href : (T k).1 = ref) {v : Value} (hv : fs[k]? = some v) (hdg : decode cc pc = .ok (.getfield index, 3))
    (kk : W p l e R s m args below meth c H locs cells slots Q (F0 m (pc + 3) ls (v :: rest))) : W p l e R s m args below meth c H locs cells slots Q (F0 m pc ls (.ref a :: rest)) :=
  va_getN X.1 X.2.1 X.2.2.2.2.1 hc.2.1 X.2.2.2.1 X.2.2.2.2.2.1.1 hW.1 q0 he hc.1 k hk (va_Nw.use rfl (X.2.2.2.2.2.1.2.1 _ hl)) (fun _ h => by rw [← href]; exact h) hv hdg kk
theorem r_put (X : CTX p l m meth c cc nL s args own g A) (hW : WD g A s H locs ws) (q0 : Nat) {ci : Nat} {C ref : String} {T : u_T} {N index : Nat} {ty : Nat → FieldType} (hc : CI ci C T N ty) (k : Nat) {fs : List Value} (he : ws[q0]? = some (a, .inr (ci, fs))) (hk : k < N) (hl : Cond.fieldLink own index ref (T k).2.1 (T k).2.2.1 ∈ BW) (href : (T k).1 = ref) (hfin : (T k).2.2.2 = false) {v : Value} (hn : narrow (ty k) v = v) (hfit : fits (ty k) v = true) (hlt : k < fs.length) (hws : ws.set q0 (a, .inr (ci, fs.set k v)) = ws') (hdg : decode cc pc = .ok (.putfield index, 3))
    (kk : ∀ (H1 : Heap) (locs1 : List Loc), WD g A s H1 locs1 ws' → W p l e R s m args below meth c H1 locs1 cells slots Q (F0 m (pc + 3) ls rest)) : W p l e R s m args below meth c H locs cells slots Q (F0 m pc ls (v :: .ref a :: rest)) := by
  subst hws
  exact va_put X.1 X.2.1 X.2.2.2.2.1 hc.2.1 ty hc.2.2.1 hc.2.2.2 X.2.2.2.1 X.2.2.2.2.2.1.1 hW.1 hW.2.1 hW.2.2 q0 he hc.1 k hk (X.2.2.2.2.1 _ hl) (fun _ h => by rw [← href]; exact h) hfin (hc.2.2.1 k hk) hn hfit hlt hdg (fun H1 locs1 h1 h2 h3 => kk H1 locs1 ⟨h1, h2, h3⟩)
theorem r_putN (X : CTX p l m meth c cc nL s args own g A) (hW : WD g A s H locs ws) (q0 : Nat) {ci : Nat} {C ref host : String} {T : u_T} {N index : Nat} {ty : Nat → FieldType} (hc : CI ci C T N ty) (k : Nat) {fs : List Value} (he : ws[q0]? = some (a, .inr (ci, fs))) (hk : k < N) (hl : Cond.fieldLinkNest own index ref (T k).2.1 (T k).2.2.1 host ∈ NWS) (href : (T k).1 = ref) (hfin : (T k).2.2.2 = false) {v : Value} (hn : narrow (ty k) v = v) (hfit : fits (ty k) v = true) (hlt : k < fs.length) (hws : ws.set q0 (a, .inr (ci, fs.set k v)) = ws') (hdg : decode cc pc = .ok (.putfield index, 3))
    (kk : ∀ (H1 : Heap) (locs1 : List Loc), WD g A s H1 locs1 ws' → W p l e R s m args below meth c H1 locs1 cells slots Q (F0 m (pc + 3) ls rest)) : W p l e R s m args below meth c H locs cells slots Q (F0 m pc ls (v :: .ref a :: rest)) := by
  subst hws
  exact va_putN X.1 X.2.1 X.2.2.2.2.1 hc.2.1 ty hc.2.2.1 hc.2.2.2 X.2.2.2.1 X.2.2.2.2.2.1.1 hW.1 hW.2.1 hW.2.2 q0 he hc.1 k hk (va_Nw.use rfl (X.2.2.2.2.2.1.2.1 _ hl)) (fun _ h => by rw [← href]; exact h) hfin (hc.2.2.1 k hk) hn hfit hlt hdg (fun H1 locs1 h1 h2 h3 => kk H1 locs1 ⟨h1, h2, h3⟩)
theorem r_putF (X : CTX p l m meth c cc nL s args own g A) (hin : meth.name = "<init>") (hW : WD g A s H locs ws) (q0 : Nat) {ci : Nat} {C ref : String} {T : u_T} {N index : Nat} {ty : Nat → FieldType} (hc : CI ci C T N ty) (k : Nat) {fs : List Value} (he : ws[q0]? = some (a, .inr (ci, fs))) (hk : k < N) (hl : Cond.fieldLink own index ref (T k).2.1 (T k).2.2.1 ∈ BW) (href : (T k).1 = ref) (hfin : (T k).2.2.2 = true) (hdecl : (T k).1 = own) {v : Value} (hn : narrow (ty k) v = v) (hfit : fits (ty k) v = true) (hlt : k < fs.length) (hws : ws.set q0 (a, .inr (ci, fs.set k v)) = ws') (hdg : decode cc pc = .ok (.putfield index, 3))
    (kk : ∀ (H1 : Heap) (locs1 : List Loc), WD g A s H1 locs1 ws' → W p l e R s m args below meth c H1 locs1 cells slots Q (F0 m (pc + 3) ls rest)) : W p l e R s m args below meth c H locs cells slots Q (F0 m pc ls (v :: .ref a :: rest)) := by
  subst hws
  exact va_putF X.1 X.2.1 X.2.2.2.2.1 hc.2.1 ty hc.2.2.1 hc.2.2.2 X.2.2.2.1 X.2.2.2.2.2.1.1 hW.1 hW.2.1 hW.2.2 q0 he hc.1 k hk (X.2.2.2.2.1 _ hl) (fun _ h => by rw [← href]; exact h) hfin hin hdecl (hc.2.2.1 k hk) hn hfit hlt hdg (fun H1 locs1 h1 h2 h3 => kk H1 locs1 ⟨h1, h2, h3⟩)
-- new objects and arrays
theorem r_new (X : CTX p l m meth c cc nL s args own g A) (hW : WD g A s H locs ws) {ci : Nat} {C : String} {T : u_T} {N index : Nat} {ty : Nat → FieldType} (hc : CI ci C T N ty) (h1 : Cond.classLink own index C ∈ BW) (h2 : Cond.instantiable C N ∈ BW) (h3 : Cond.initialized C ∈ BW) {fs : List Value} (hfs : (List.range N).all (fun j => decide (defaultValue (ty j) = vp_V fs j)) = true) (hf : cells + 1 ≤ R.cells ∧ slots + N ≤ R.slots) (hdg : decode cc pc = .ok (.new index, 3))
    (kk : ∀ (q : Nat) (H1 : Heap), WD g A s H1 locs (ws ++ [(q, .inr (ci, fs))]) → W p l e R s m args below meth c H1 locs (cells + 1) (slots + N) Q (F0 m (pc + 3) ls (.ref q :: rest))) : W p l e R s m args below meth c H locs cells slots Q (F0 m pc ls rest) :=
  va_new X.1 X.2.1 X.2.2.2.2.1 hc.2.1 ty hc.2.2.1 X.2.2.2.1 (X.2.2.2.2.1 _ h1) (X.2.2.2.2.1 _ h2) (X.2.2.2.2.1 _ h3) X.2.2.2.2.2.1.1 hW.1 hW.2.1 hW.2.2 X.2.2.2.2.2.2.2.1 hc.1 (fun j hj => of_decide_eq_true (List.all_eq_true.mp hfs j (List.mem_range.mpr hj))) hf.1 hf.2 hdg (fun q H1 a1 a2 a3 => kk q H1 ⟨a1, a2, a3⟩)
theorem tys_one {D : va_G} {cl : List vw_C} {tys : List (ClassId × FieldType)} {U : State} {k : Nat} {c1 c2 : ClassId} {ty : FieldType} (hK : va_K D cl (tys ++ [(c1, ty)]) U) (hk : tys[k]? = some (c2, ty)) (hty : ∀ C, ty ≠ .object C) : c1 = c2 := by
  have h1 := (hK.2 tys.length (c1, ty) (by simp)).2
  have hlt : k < tys.length := (List.getElem?_eq_some_iff.mp hk).1
  have h2 := (hK.2 k (c2, ty) (by rw [List.getElem?_append_left hlt]; exact hk)).2
  cases ty <;> first | exact Option.some.inj (h1.symm.trans h2) | exact absurd rfl (hty _)
theorem tys_oneO {D : va_G} {cl : List vw_C} {tys : List (ClassId × FieldType)} {U : State} {k : Nat} {c1 c2 : ClassId} {C : String} (hK : va_K D cl (tys ++ [(c1, .object C)]) U) (hk : tys[k]? = some (c2, .object C)) : c1 = c2 := by
  obtain ⟨-, -, -, -, -, h1⟩ := (hK.2 tys.length (c1, .object C) (by simp)).2
  have hlt : k < tys.length := (List.getElem?_eq_some_iff.mp hk).1
  obtain ⟨-, -, -, -, -, h2⟩ := (hK.2 k (c2, .object C) (by rw [List.getElem?_append_left hlt]; exact hk)).2
  exact Option.some.inj (h1.symm.trans h2)
theorem r_newa (X : CTX p l m meth c cc nL s args own g A) (hW : WD g A s H locs ws) (atype : ArrayType) {ty : FieldType} (hty : newarray.typeOf atype = ty) (harr : Cond.arrayClass ty ∈ BW) (t0 : Nat) {cA : ClassId} (ht : (TYS g)[t0]? = some (cA, ty)) (hto : ∀ C, ty ≠ .object C) {n : Int32} {N : Nat} {a0 : vp_A} (ha : ∀ cA : ClassId, vp_cell cA a0 = arrV cA N (fun _ => defaultValue ty)) (hn : ¬ n < 0) (hN : n.toNatClampNeg = N) (hb9 : N * componentBytes ty ≤ 536870912) (hf : cells + 1 ≤ R.cells ∧ slots + N ≤ R.slots) (hdg : decode cc pc = .ok (.newarray atype, 2))
    (kk : ∀ (q : Nat) (H1 : Heap), WD g A s H1 locs (ws ++ [(q, .inl (cA, a0))]) → W p l e R s m args below meth c H1 locs (cells + 1) (slots + N) Q (F0 m (pc + 2) ls (.ref q :: rest))) : W p l e R s m args below meth c H locs cells slots Q (F0 m pc ls (.int n :: rest)) := by
  refine va_newa X.1 X.2.1 (atype := atype) (by rw [hty]; exact X.2.2.2.2.1 _ harr) hty X.2.2.2.2.2.1.1 hW.1 hW.2.1 hW.2.2 X.2.2.2.2.2.2.2.1 ha hn hN hb9 hf.1 hf.2 hdg (fun q cA' H1 h1 h2 h3 h4 => ?_)
  obtain rfl := tys_one h1 ht hto
  exact kk q H1 ⟨h2, h3, h4⟩
theorem r_newq (X : CTX p l m meth c cc nL s args own g A) (hW : WD g A s H locs ws) {C : String} {index : Nat} (hcl : Cond.classLink own index C ∈ BW) (hao : KX g s → va_AO C s) (t0 : Nat) {cA : ClassId} (ht : (TYS g)[t0]? = some (cA, .object C)) {n : Int32} {N : Nat} (hn : ¬ n < 0) (hN : n.toNatClampNeg = N) (hb9 : N * 4 ≤ 536870912) (hf : cells + 1 ≤ R.cells ∧ slots + N ≤ R.slots) (hdg : decode cc pc = .ok (.anewarray index, 3))
    (kk : ∀ (q : Nat) (H1 : Heap), WD g A s H1 locs (ws ++ [(q, .inl (cA, N, .inr (.inr (.inr (.inr (fun _ => none))))))]) → W p l e R s m args below meth c H1 locs (cells + 1) (slots + N) Q (F0 m (pc + 3) ls (.ref q :: rest))) : W p l e R s m args below meth c H locs cells slots Q (F0 m pc ls (.int n :: rest)) := by
  refine va_newq X.1 X.2.1 X.2.2.2.1 (X.2.2.2.2.1 _ hcl) (hao X.2.2.2.2.2.1) X.2.2.2.2.2.1.1 hW.1 hW.2.1 hW.2.2 X.2.2.2.2.2.2.2.1 hn hN hb9 hf.1 hf.2 hdg (fun q cA' H1 h1 h2 h3 h4 => ?_)
  obtain rfl := tys_oneO h1 ht
  exact kk q H1 ⟨h2, h3, h4⟩
-- arrays
theorem r_iald (X : CTX p l m meth c cc nL s args own g A) (hW : WD g A s H locs ws) (q0 : Nat) {n : Nat} {f : Nat → Int32} (ha : ws[q0]? = some (a, .inl (g.2.1 1, n, .inl f))) {i : Int32} (hin : vp_in i n) (hdg : decode cc pc = .ok (.iaload, 1))
    (kk : W p l e R s m args below meth c H locs cells slots Q (F0 m (pc + 1) ls (.int (f i.toNatClampNeg) :: rest))) : W p l e R s m args below meth c H locs cells slots Q (F0 m pc ls (.int i :: .ref a :: rest)) :=
  va_iald X.1 X.2.1 X.2.2.2.2.2.1.1 hW.1 q0 1 ha rfl hin hdg kk
theorem r_bald (X : CTX p l m meth c cc nL s args own g A) (hW : WD g A s H locs ws) (q0 : Nat) {n : Nat} {f : Nat → Int32} (ha : ws[q0]? = some (a, .inl (g.2.1 0, n, .inl f))) {i : Int32} (hin : vp_in i n) (hdg : decode cc pc = .ok (.baload, 1))
    (kk : W p l e R s m args below meth c H locs cells slots Q (F0 m (pc + 1) ls (.int (f i.toNatClampNeg) :: rest))) : W p l e R s m args below meth c H locs cells slots Q (F0 m pc ls (.int i :: .ref a :: rest)) :=
  va_bald X.1 X.2.1 X.2.2.2.2.2.1.1 hW.1 q0 0 ha rfl hin hdg kk
theorem r_lald (X : CTX p l m meth c cc nL s args own g A) (hW : WD g A s H locs ws) (q0 : Nat) {n : Nat} {f : Nat → Int64} (ha : ws[q0]? = some (a, .inl (g.2.1 2, n, .inr (.inl f)))) {i : Int32} (hin : vp_in i n) (hdg : decode cc pc = .ok (.laload, 1))
    (kk : W p l e R s m args below meth c H locs cells slots Q (F0 m (pc + 1) ls (.long (f i.toNatClampNeg) :: rest))) : W p l e R s m args below meth c H locs cells slots Q (F0 m pc ls (.int i :: .ref a :: rest)) :=
  va_lald X.1 X.2.1 X.2.2.2.2.2.1.1 hW.1 q0 2 ha rfl hin hdg kk
theorem r_zald (X : CTX p l m meth c cc nL s args own g A) (hW : WD g A s H locs ws) (q0 : Nat) {n : Nat} {f : Nat → Int32} (ha : ws[q0]? = some (a, .inl (g.2.1 3, n, .inl f))) {i : Int32} (hin : vp_in i n) (hdg : decode cc pc = .ok (.baload, 1))
    (kk : W p l e R s m args below meth c H locs cells slots Q (F0 m (pc + 1) ls (.int (f i.toNatClampNeg) :: rest))) : W p l e R s m args below meth c H locs cells slots Q (F0 m pc ls (.int i :: .ref a :: rest)) :=
  va_zald X.1 X.2.1 X.2.2.2.2.2.1.1 hW.1 q0 3 ha rfl hin hdg kk
theorem r_iast (X : CTX p l m meth c cc nL s args own g A) (hW : WD g A s H locs ws) (q0 : Nat) {n : Nat} {f : Nat → Int32} (ha : ws[q0]? = some (a, .inl (g.2.1 1, n, .inl f))) {i x : Int32} (hin : vp_in i n) {f' : Nat → Int32} (hf' : upd f i.toNatClampNeg x = f') (hws : ws.set q0 (a, .inl (g.2.1 1, n, .inl f')) = ws') (hdg : decode cc pc = .ok (.iastore, 1))
    (kk : ∀ (H1 : Heap) (locs1 : List Loc), WD g A s H1 locs1 ws' → W p l e R s m args below meth c H1 locs1 cells slots Q (F0 m (pc + 1) ls rest)) : W p l e R s m args below meth c H locs cells slots Q (F0 m pc ls (.int x :: .int i :: .ref a :: rest)) := by
  subst hf' hws
  exact va_iast X.1 X.2.1 X.2.2.2.2.2.1.1 hW.1 hW.2.1 hW.2.2 q0 1 ha rfl hin hdg (fun H1 locs1 h1 h2 h3 => kk H1 locs1 ⟨h1, h2, h3⟩)
theorem r_bast (X : CTX p l m meth c cc nL s args own g A) (hW : WD g A s H locs ws) (q0 : Nat) {n : Nat} {f : Nat → Int32} (ha : ws[q0]? = some (a, .inl (g.2.1 0, n, .inl f))) {i x : Int32} (hin : vp_in i n) {f' : Nat → Int32} (hf' : upd f i.toNatClampNeg (vp_nar .byte x) = f') (hws : ws.set q0 (a, .inl (g.2.1 0, n, .inl f')) = ws') (hdg : decode cc pc = .ok (.bastore, 1))
    (kk : ∀ (H1 : Heap) (locs1 : List Loc), WD g A s H1 locs1 ws' → W p l e R s m args below meth c H1 locs1 cells slots Q (F0 m (pc + 1) ls rest)) : W p l e R s m args below meth c H locs cells slots Q (F0 m pc ls (.int x :: .int i :: .ref a :: rest)) := by
  subst hf' hws
  exact va_bast X.1 X.2.1 X.2.2.2.2.2.1.1 hW.1 hW.2.1 hW.2.2 q0 0 ha rfl hin hdg (fun H1 locs1 h1 h2 h3 => kk H1 locs1 ⟨h1, h2, h3⟩)
theorem r_zast (X : CTX p l m meth c cc nL s args own g A) (hW : WD g A s H locs ws) (q0 : Nat) {n : Nat} {f : Nat → Int32} (ha : ws[q0]? = some (a, .inl (g.2.1 3, n, .inl f))) {i x : Int32} (hin : vp_in i n) {f' : Nat → Int32} (hf' : upd f i.toNatClampNeg (vp_nar .boolean x) = f') (hws : ws.set q0 (a, .inl (g.2.1 3, n, .inl f')) = ws') (hdg : decode cc pc = .ok (.bastore, 1))
    (kk : ∀ (H1 : Heap) (locs1 : List Loc), WD g A s H1 locs1 ws' → W p l e R s m args below meth c H1 locs1 cells slots Q (F0 m (pc + 1) ls rest)) : W p l e R s m args below meth c H locs cells slots Q (F0 m pc ls (.int x :: .int i :: .ref a :: rest)) := by
  subst hf' hws
  exact va_zast X.1 X.2.1 X.2.2.2.2.2.1.1 hW.1 hW.2.1 hW.2.2 q0 3 ha rfl hin hdg (fun H1 locs1 h1 h2 h3 => kk H1 locs1 ⟨h1, h2, h3⟩)
theorem r_last (X : CTX p l m meth c cc nL s args own g A) (hW : WD g A s H locs ws) (q0 : Nat) {n : Nat} {f : Nat → Int64} (ha : ws[q0]? = some (a, .inl (g.2.1 2, n, .inr (.inl f)))) {i : Int32} {x : Int64} (hin : vp_in i n) {f' : Nat → Int64} (hf' : vp_updL f i.toNatClampNeg x = f') (hws : ws.set q0 (a, .inl (g.2.1 2, n, .inr (.inl f'))) = ws') (hdg : decode cc pc = .ok (.lastore, 1))
    (kk : ∀ (H1 : Heap) (locs1 : List Loc), WD g A s H1 locs1 ws' → W p l e R s m args below meth c H1 locs1 cells slots Q (F0 m (pc + 1) ls rest)) : W p l e R s m args below meth c H locs cells slots Q (F0 m pc ls (.long x :: .int i :: .ref a :: rest)) := by
  subst hf' hws
  exact va_last X.1 X.2.1 X.2.2.2.2.2.1.1 hW.1 hW.2.1 hW.2.2 q0 2 ha rfl hin hdg (fun H1 locs1 h1 h2 h3 => kk H1 locs1 ⟨h1, h2, h3⟩)
theorem r_alen (X : CTX p l m meth c cc nL s args own g A) (hW : WD g A s H locs ws) (q0 t0 : Nat) {cA : ClassId} {x : vp_A} (ha : ws[q0]? = some (a, .inl (cA, x))) {ty : FieldType} (ht : (TYS g)[t0]? = some (cA, ty)) {v : Int32} (hv : Int32.ofNat x.1 = v) (hdg : decode cc pc = .ok (.arraylength, 1))
    (kk : W p l e R s m args below meth c H locs cells slots Q (F0 m (pc + 1) ls (.int v :: rest))) : W p l e R s m args below meth c H locs cells slots Q (F0 m pc ls (.ref a :: rest)) :=
  va_alen X.1 X.2.1 X.2.2.2.2.2.1.1 hW.1 q0 t0 ha ht hv hdg kk
-- calls: the callee's cells are cut out, what comes back stands behind the rest
section
variable {y : MethodName} {bytes : ByteArray} {maxL n d mc ms index : Nat} {ret : Option FieldType} {wc wr : va_W} {As : List Value} {C host : String} {b : Addr} {stk : List Value}
theorem k_pre (X : CTX p l m meth c cc nL s args own g A) (hW : WD g A s H locs ws) (isC : List Nat) (hC : isC.map (fun i => ws[i]?) = wc.map some) (hnC : va_nd isC = true) (U : State) (hU : U.heap = H) (hWm : s.WarmedH U.vm) : PRE g wc H.size U := by
  have hF : ∀ q, va_A wc H.size q → A q := va_free hW.2.1 hW.2.2 X.2.2.2.2.2.2.2.1 isC hC
  have hP := (hW.pick isC hnC hC).1
  refine ⟨by rw [hU], by rw [hU]; exact hP, X.2.2.2.2.2.1.warm hWm, (hW.2.1.sub isC hnC hC).weaken (fun _ _ _ _ => trivial), ?_⟩
  rw [hU]
  exact ((X.2.2.2.2.2.2.1.moved hWm.alike).kept hW.2.2.2.1).narrow hF
theorem k_back (X : CTX p l m meth c cc nL s args own g A) (hW : WD g A s H locs ws) (isC isR : List Nat) (hC : isC.map (fun i => ws[i]?) = wc.map some) (hR : isR.map (fun i => ws[i]?) = wr.map some) (hn : va_nd isR = true) (hdis : isR.all (fun i => decide (i ∉ isC)) = true) {u : va_W} {t : State} {H1 : Heap} {locs1 : List Loc} (ht : t.heap = H1) (hB : BO g (va_A wc H.size) u t) (hk1 : ∀ q : Nat, q < H.size → ¬ va_A wc H.size q → H1[q]? = H[q]?) (hS : va_S A s.heap H1 locs1) : WD g A s H1 locs1 (wr ++ u) := by
  have hF : ∀ q, va_A wc H.size q → A q := va_free hW.2.1 hW.2.2 X.2.2.2.2.2.2.2.1 isC hC
  obtain ⟨h1, h2⟩ := hB
  rw [ht] at h1
  obtain ⟨h3, h4⟩ := va_join (wr := wr) (w1 := u) hW.1 hW.2.1 isC isR hC hR hn (fun i hi => of_decide_eq_true (List.all_eq_true.mp hdis i hi)) hk1 hF h1 h2
  exact ⟨h3, h4, hS⟩
theorem k_cwV (X : CTX p l m meth c cc nL s args own g A) (hV : LV own index C y bytes maxL ret n) (hR : d + 1 ≤ R.frames ∧ 8 + (maxL + 11) + 40 * d ≤ R.locals) : CallW R s args own C index y bytes maxL ret (WW y bytes maxL ret) (RM d mc ms) mc ms n := by
  obtain ⟨h1, h2, h3, h4, h5, h6, h7, h8, h9⟩ := hV
  exact cwV n X.2.2.2.2.1 (good_in fun w hw => by
    rcases List.mem_append.mp hw with hw | hw
    · simp only [List.mem_cons, List.not_mem_nil, or_false] at hw
      rcases hw with rfl | rfl | rfl | rfl <;> assumption
    · exact ((good_ww h5) w hw).1) rfl rfl rfl ⟨h6, h7, h8, h9⟩ hR
theorem k_cwS (X : CTX p l m meth c cc nL s args own g A) (hV : LST own index y bytes maxL ret n) (hR : d + 1 ≤ R.frames ∧ 8 + (maxL + 11) + 40 * d ≤ R.locals) : CallB R s args own index y bytes maxL ret (WW y bytes maxL ret) (RM d mc ms) mc ms n ∧ (Cond.static y).before args s = true := by
  obtain ⟨h1, h2, h3, h4, h6, h7, h8⟩ := hV
  exact va_cwS n X.2.2.2.2.1 (good_in fun w hw => by
    rcases List.mem_append.mp hw with hw | hw
    · simp only [List.mem_cons, List.not_mem_nil, or_false] at hw
      rcases hw with rfl | rfl | rfl <;> assumption
    · exact ((good_ww h4) w hw).1) rfl rfl rfl ⟨h6, h7, h8⟩ hR
theorem k_cwSN (X : CTX p l m meth c cc nL s args own g A) (hV : LSN own index host y bytes maxL ret n) (hR : d + 1 ≤ R.frames ∧ 8 + (maxL + 11) + 40 * d ≤ R.locals) : va_CN R s args own index y host bytes maxL ret (WW y bytes maxL ret) (RM d mc ms) mc ms n ∧ (Cond.static y).before args s = true ∧ True := by
  obtain ⟨h1, h2, h3, h4, h6, h7, h8⟩ := hV
  exact ⟨va_cnB n X.2.2.2.2.1 (good_ww h4) rfl rfl rfl (X.2.2.2.2.2.1.2.1 _ h1) (X.2.2.2.2.1 _ h3) ⟨h6, h7, h8⟩ hR, X.2.2.2.2.1 _ h2, trivial⟩
theorem k_cwI (X : CTX p l m meth c cc nL s args own g A) (hV : LI own index y bytes maxL n) (hR : d + 1 ≤ R.frames ∧ 8 + (maxL + 11) + 40 * d ≤ R.locals) : CallB R s args own index y bytes maxL none (WW y bytes maxL none) (RM d mc ms) mc ms n ∧ y.name = "<init>" ∧ (Cond.instanceMethod y).before args s = true := by
  obtain ⟨h1, h2, h3, h4, h5, h6, h7, h8⟩ := hV
  exact cwI n X.2.2.2.2.1 (good_ww h4) rfl rfl rfl (X.2.2.2.2.1 _ h3) (X.2.2.2.2.1 _ h1) (X.2.2.2.2.1 _ h2) h5 ⟨h6, h7, h8⟩ hR
theorem k_cwIN (X : CTX p l m meth c cc nL s args own g A) (hV : LIN own index host y bytes maxL n) (hR : d + 1 ≤ R.frames ∧ 8 + (maxL + 11) + 40 * d ≤ R.locals) : va_CN R s args own index y host bytes maxL none (WW y bytes maxL none) (RM d mc ms) mc ms n ∧ y.name = "<init>" ∧ (Cond.instanceMethod y).before args s = true := by
  obtain ⟨h1, h2, h3, h4, h5, h6, h7, h8⟩ := hV
  exact ⟨va_cnB n X.2.2.2.2.1 (good_ww h4) rfl rfl rfl (X.2.2.2.2.2.1.2.1 _ h1) (X.2.2.2.2.1 _ h3) ⟨h6, h7, h8⟩ hR, h5, X.2.2.2.2.1 _ h2⟩
theorem k_recv (X : CTX p l m meth c cc nL s args own g A) (hW : WD g A s H locs ws) (q0 : Nat) {ci : Nat} {fs : List Value} {T : u_T} {N : Nat} {ty : Nat → FieldType} (hc : CI ci C T N ty) (he : ws[q0]? = some (b, .inr (ci, fs))) : ∃ cell : Cell, H[b]? = some cell ∧ cell.vm.isStatics = false ∧ s.vm.findClass C = some cell.cls := va_recv X.2.2.2.2.2.1.1 hW.1 hc.1 he
theorem c_Vi (X : CTX p l m meth c cc nL s args own g A) (hW : WD g A s H locs ws) (q0 : Nat) {ci : Nat} {fs : List Value} {T : u_T} {N : Nat} {ty : Nat → FieldType} (hc : CI ci C T N ty) (he : ws[q0]? = some (b, .inr (ci, fs))) {post : Int32 → va_W → Prop} (hM : MetI l g y bytes maxL ret d mc ms (.ref b :: As) wc post) (hV : LV own index C y bytes maxL ret n) (isC isR : List Nat) (hC : isC.map (fun i => ws[i]?) = wc.map some) (hnC : va_nd isC = true) (hR : isR.map (fun i => ws[i]?) = wr.map some) (hnR : va_nd isR = true) (hdis : isR.all (fun i => decide (i ∉ isC)) = true) (hn : As.length = n) (hls : ls.size = nL) (hstk : stk = As.reverse ++ .ref b :: rest) (hroom : (rest.map fun v => v.category).sum ≤ 8) (hRm : d + 1 ≤ R.frames ∧ 8 + (maxL + 11) + 40 * d ≤ R.locals) (hf : cells + mc ≤ R.cells ∧ slots + ms ≤ R.slots) (hdg : decode cc pc = .ok (.invokevirtual index, 3))
    (kk : ∀ (r : Int32) (u : va_W) (H1 : Heap) (locs1 : List Loc), post r u → WD g A s H1 locs1 (wr ++ u) → W p l e R s m args below meth c H1 locs1 (cells + mc) (slots + ms) Q (F0 m (pc + 3) ls (.int r :: rest))) : W p l e R s m args below meth c H locs cells slots Q (F0 m pc ls stk) := by
  have hF : ∀ q, va_A wc H.size q → A q := va_free hW.2.1 hW.2.2 X.2.2.2.2.2.2.2.1 isC hC
  exact va_calli (va_runV (As := As) (rest := rest) ⟨X.1, X.2.1, X.2.2.1, X.2.2.2.1, X.2.2.2.2.1⟩ (hM H.size) (k_cwV X hV hRm) ⟨PRE.blind, k_recv X hW q0 hc he, fun U hU hWm => ⟨rfl, k_pre X hW isC hC hnC U hU hWm⟩⟩ rfl hn hls hstk (lv_room hroom) hdg hf) hW.2.2 (fun q _ h => hF q h) hF (fun r u t H1 locs1 ht _ hp hB _ hk1 hS => kk r u H1 locs1 hp (k_back X hW isC isR hC hR hnR hdis ht hB hk1 hS))
theorem c_Si (X : CTX p l m meth c cc nL s args own g A) (hW : WD g A s H locs ws) {post : Int32 → va_W → Prop} (hM : MetI l g y bytes maxL ret d mc ms As wc post) (hV : LST own index y bytes maxL ret n) (isC isR : List Nat) (hC : isC.map (fun i => ws[i]?) = wc.map some) (hnC : va_nd isC = true) (hR : isR.map (fun i => ws[i]?) = wr.map some) (hnR : va_nd isR = true) (hdis : isR.all (fun i => decide (i ∉ isC)) = true) (hn : As.length = n) (hls : ls.size = nL) (hstk : stk = As.reverse ++ rest) (hroom : (rest.map fun v => v.category).sum ≤ 8) (hRm : d + 1 ≤ R.frames ∧ 8 + (maxL + 11) + 40 * d ≤ R.locals) (hf : cells + mc ≤ R.cells ∧ slots + ms ≤ R.slots) (hdg : decode cc pc = .ok (.invokestatic index, 3))
    (kk : ∀ (r : Int32) (u : va_W) (H1 : Heap) (locs1 : List Loc), post r u → WD g A s H1 locs1 (wr ++ u) → W p l e R s m args below meth c H1 locs1 (cells + mc) (slots + ms) Q (F0 m (pc + 3) ls (.int r :: rest))) : W p l e R s m args below meth c H locs cells slots Q (F0 m pc ls stk) := by
  have hF : ∀ q, va_A wc H.size q → A q := va_free hW.2.1 hW.2.2 X.2.2.2.2.2.2.2.1 isC hC
  exact va_calli (va_runS (As := As) (rest := rest) ⟨X.1, X.2.1, X.2.2.1, X.2.2.2.1, X.2.2.2.2.1⟩ (hM H.size) (k_cwS X hV hRm) ⟨PRE.blind, fun U hU hWm => ⟨rfl, k_pre X hW isC hC hnC U hU hWm⟩⟩ rfl hn hls hstk (lv_room hroom) hdg hf) hW.2.2 (fun q _ h => hF q h) hF (fun r u t H1 locs1 ht _ hp hB _ hk1 hS => kk r u H1 locs1 hp (k_back X hW isC isR hC hR hnR hdis ht hB hk1 hS))
theorem c_SNi (X : CTX p l m meth c cc nL s args own g A) (hW : WD g A s H locs ws) {post : Int32 → va_W → Prop} (hM : MetI l g y bytes maxL ret d mc ms As wc post) (hV : LSN own index host y bytes maxL ret n) (isC isR : List Nat) (hC : isC.map (fun i => ws[i]?) = wc.map some) (hnC : va_nd isC = true) (hR : isR.map (fun i => ws[i]?) = wr.map some) (hnR : va_nd isR = true) (hdis : isR.all (fun i => decide (i ∉ isC)) = true) (hn : As.length = n) (hls : ls.size = nL) (hstk : stk = As.reverse ++ rest) (hroom : (rest.map fun v => v.category).sum ≤ 8) (hRm : d + 1 ≤ R.frames ∧ 8 + (maxL + 11) + 40 * d ≤ R.locals) (hf : cells + mc ≤ R.cells ∧ slots + ms ≤ R.slots) (hdg : decode cc pc = .ok (.invokestatic index, 3))
    (kk : ∀ (r : Int32) (u : va_W) (H1 : Heap) (locs1 : List Loc), post r u → WD g A s H1 locs1 (wr ++ u) → W p l e R s m args below meth c H1 locs1 (cells + mc) (slots + ms) Q (F0 m (pc + 3) ls (.int r :: rest))) : W p l e R s m args below meth c H locs cells slots Q (F0 m pc ls stk) := by
  have hF : ∀ q, va_A wc H.size q → A q := va_free hW.2.1 hW.2.2 X.2.2.2.2.2.2.2.1 isC hC
  exact va_calli (va_runSN (As := As) (rest := rest) ⟨X.1, X.2.1, X.2.2.1, X.2.2.2.1, X.2.2.2.2.1⟩ (hM H.size) (k_cwSN X hV hRm) ⟨PRE.blind, fun U hU hWm => ⟨rfl, k_pre X hW isC hC hnC U hU hWm⟩⟩ rfl hn hls hstk (lv_room hroom) hdg hf) hW.2.2 (fun q _ h => hF q h) hF (fun r u t H1 locs1 ht _ hp hB _ hk1 hS => kk r u H1 locs1 hp (k_back X hW isC isR hC hR hnR hdis ht hB hk1 hS))
theorem c_Vl (X : CTX p l m meth c cc nL s args own g A) (hW : WD g A s H locs ws) (q0 : Nat) {ci : Nat} {fs : List Value} {T : u_T} {N : Nat} {ty : Nat → FieldType} (hc : CI ci C T N ty) (he : ws[q0]? = some (b, .inr (ci, fs))) {post : Int64 → va_W → Prop} (hM : MetL l g y bytes maxL ret d mc ms (.ref b :: As) wc post) (hV : LV own index C y bytes maxL ret n) (isC isR : List Nat) (hC : isC.map (fun i => ws[i]?) = wc.map some) (hnC : va_nd isC = true) (hR : isR.map (fun i => ws[i]?) = wr.map some) (hnR : va_nd isR = true) (hdis : isR.all (fun i => decide (i ∉ isC)) = true) (hn : As.length = n) (hls : ls.size = nL) (hstk : stk = As.reverse ++ .ref b :: rest) (hroom : (rest.map fun v => v.category).sum ≤ 8) (hRm : d + 1 ≤ R.frames ∧ 8 + (maxL + 11) + 40 * d ≤ R.locals) (hf : cells + mc ≤ R.cells ∧ slots + ms ≤ R.slots) (hdg : decode cc pc = .ok (.invokevirtual index, 3))
    (kk : ∀ (r : Int64) (u : va_W) (H1 : Heap) (locs1 : List Loc), post r u → WD g A s H1 locs1 (wr ++ u) → W p l e R s m args below meth c H1 locs1 (cells + mc) (slots + ms) Q (F0 m (pc + 3) ls (.long r :: rest))) : W p l e R s m args below meth c H locs cells slots Q (F0 m pc ls stk) := by
  have hF : ∀ q, va_A wc H.size q → A q := va_free hW.2.1 hW.2.2 X.2.2.2.2.2.2.2.1 isC hC
  exact va_calll (va_runV (As := As) (rest := rest) ⟨X.1, X.2.1, X.2.2.1, X.2.2.2.1, X.2.2.2.2.1⟩ (hM H.size) (k_cwV X hV hRm) ⟨PRE.blind, k_recv X hW q0 hc he, fun U hU hWm => ⟨rfl, k_pre X hW isC hC hnC U hU hWm⟩⟩ rfl hn hls hstk (lv_room hroom) hdg hf) hW.2.2 (fun q _ h => hF q h) hF (fun r u t H1 locs1 ht _ hp hB _ hk1 hS => kk r u H1 locs1 hp (k_back X hW isC isR hC hR hnR hdis ht hB hk1 hS))
theorem c_Sl (X : CTX p l m meth c cc nL s args own g A) (hW : WD g A s H locs ws) {post : Int64 → va_W → Prop} (hM : MetL l g y bytes maxL ret d mc ms As wc post) (hV : LST own index y bytes maxL ret n) (isC isR : List Nat) (hC : isC.map (fun i => ws[i]?) = wc.map some) (hnC : va_nd isC = true) (hR : isR.map (fun i => ws[i]?) = wr.map some) (hnR : va_nd isR = true) (hdis : isR.all (fun i => decide (i ∉ isC)) = true) (hn : As.length = n) (hls : ls.size = nL) (hstk : stk = As.reverse ++ rest) (hroom : (rest.map fun v => v.category).sum ≤ 8) (hRm : d + 1 ≤ R.frames ∧ 8 + (maxL + 11) + 40 * d ≤ R.locals) (hf : cells + mc ≤ R.cells ∧ slots + ms ≤ R.slots) (hdg : decode cc pc = .ok (.invokestatic index, 3))
    (kk : ∀ (r : Int64) (u : va_W) (H1 : Heap) (locs1 : List Loc), post r u → WD g A s H1 locs1 (wr ++ u) → W p l e R s m args below meth c H1 locs1 (cells + mc) (slots + ms) Q (F0 m (pc + 3) ls (.long r :: rest))) : W p l e R s m args below meth c H locs cells slots Q (F0 m pc ls stk) := by
  have hF : ∀ q, va_A wc H.size q → A q := va_free hW.2.1 hW.2.2 X.2.2.2.2.2.2.2.1 isC hC
  exact va_calll (va_runS (As := As) (rest := rest) ⟨X.1, X.2.1, X.2.2.1, X.2.2.2.1, X.2.2.2.2.1⟩ (hM H.size) (k_cwS X hV hRm) ⟨PRE.blind, fun U hU hWm => ⟨rfl, k_pre X hW isC hC hnC U hU hWm⟩⟩ rfl hn hls hstk (lv_room hroom) hdg hf) hW.2.2 (fun q _ h => hF q h) hF (fun r u t H1 locs1 ht _ hp hB _ hk1 hS => kk r u H1 locs1 hp (k_back X hW isC isR hC hR hnR hdis ht hB hk1 hS))
theorem c_Vv (X : CTX p l m meth c cc nL s args own g A) (hW : WD g A s H locs ws) (q0 : Nat) {ci : Nat} {fs : List Value} {T : u_T} {N : Nat} {ty : Nat → FieldType} (hc : CI ci C T N ty) (he : ws[q0]? = some (b, .inr (ci, fs))) {post : va_W → Prop} (hM : MetV l g y bytes maxL ret d mc ms (.ref b :: As) wc post) (hV : LV own index C y bytes maxL ret n) (isC isR : List Nat) (hC : isC.map (fun i => ws[i]?) = wc.map some) (hnC : va_nd isC = true) (hR : isR.map (fun i => ws[i]?) = wr.map some) (hnR : va_nd isR = true) (hdis : isR.all (fun i => decide (i ∉ isC)) = true) (hn : As.length = n) (hls : ls.size = nL) (hstk : stk = As.reverse ++ .ref b :: rest) (hroom : (rest.map fun v => v.category).sum ≤ 8) (hRm : d + 1 ≤ R.frames ∧ 8 + (maxL + 11) + 40 * d ≤ R.locals) (hf : cells + mc ≤ R.cells ∧ slots + ms ≤ R.slots) (hdg : decode cc pc = .ok (.invokevirtual index, 3))
    (kk : ∀ (u : va_W) (H1 : Heap) (locs1 : List Loc), post u → WD g A s H1 locs1 (wr ++ u) → W p l e R s m args below meth c H1 locs1 (cells + mc) (slots + ms) Q (F0 m (pc + 3) ls (rest))) : W p l e R s m args below meth c H locs cells slots Q (F0 m pc ls stk) := by
  have hF : ∀ q, va_A wc H.size q → A q := va_free hW.2.1 hW.2.2 X.2.2.2.2.2.2.2.1 isC hC
  exact va_callv (va_runV (As := As) (rest := rest) ⟨X.1, X.2.1, X.2.2.1, X.2.2.2.1, X.2.2.2.2.1⟩ (hM H.size) (k_cwV X hV hRm) ⟨PRE.blind, k_recv X hW q0 hc he, fun U hU hWm => ⟨rfl, k_pre X hW isC hC hnC U hU hWm⟩⟩ rfl hn hls hstk (lv_room hroom) hdg hf) hW.2.2 (fun q _ h => hF q h) hF (fun u t H1 locs1 ht _ hp hB _ hk1 hS => kk u H1 locs1 hp (k_back X hW isC isR hC hR hnR hdis ht hB hk1 hS))
theorem c_Sv (X : CTX p l m meth c cc nL s args own g A) (hW : WD g A s H locs ws) {post : va_W → Prop} (hM : MetV l g y bytes maxL ret d mc ms As wc post) (hV : LST own index y bytes maxL ret n) (isC isR : List Nat) (hC : isC.map (fun i => ws[i]?) = wc.map some) (hnC : va_nd isC = true) (hR : isR.map (fun i => ws[i]?) = wr.map some) (hnR : va_nd isR = true) (hdis : isR.all (fun i => decide (i ∉ isC)) = true) (hn : As.length = n) (hls : ls.size = nL) (hstk : stk = As.reverse ++ rest) (hroom : (rest.map fun v => v.category).sum ≤ 8) (hRm : d + 1 ≤ R.frames ∧ 8 + (maxL + 11) + 40 * d ≤ R.locals) (hf : cells + mc ≤ R.cells ∧ slots + ms ≤ R.slots) (hdg : decode cc pc = .ok (.invokestatic index, 3))
    (kk : ∀ (u : va_W) (H1 : Heap) (locs1 : List Loc), post u → WD g A s H1 locs1 (wr ++ u) → W p l e R s m args below meth c H1 locs1 (cells + mc) (slots + ms) Q (F0 m (pc + 3) ls (rest))) : W p l e R s m args below meth c H locs cells slots Q (F0 m pc ls stk) := by
  have hF : ∀ q, va_A wc H.size q → A q := va_free hW.2.1 hW.2.2 X.2.2.2.2.2.2.2.1 isC hC
  exact va_callv (va_runS (As := As) (rest := rest) ⟨X.1, X.2.1, X.2.2.1, X.2.2.2.1, X.2.2.2.2.1⟩ (hM H.size) (k_cwS X hV hRm) ⟨PRE.blind, fun U hU hWm => ⟨rfl, k_pre X hW isC hC hnC U hU hWm⟩⟩ rfl hn hls hstk (lv_room hroom) hdg hf) hW.2.2 (fun q _ h => hF q h) hF (fun u t H1 locs1 ht _ hp hB _ hk1 hS => kk u H1 locs1 hp (k_back X hW isC isR hC hR hnR hdis ht hB hk1 hS))
theorem c_Iv (X : CTX p l m meth c cc nL s args own g A) (hW : WD g A s H locs ws) {post : va_W → Prop} (hM : MetV l g y bytes maxL none d mc ms (.ref b :: As) wc post) (hV : LI own index y bytes maxL n) (isC isR : List Nat) (hC : isC.map (fun i => ws[i]?) = wc.map some) (hnC : va_nd isC = true) (hR : isR.map (fun i => ws[i]?) = wr.map some) (hnR : va_nd isR = true) (hdis : isR.all (fun i => decide (i ∉ isC)) = true) (hn : As.length = n) (hls : ls.size = nL) (hstk : stk = As.reverse ++ .ref b :: rest) (hroom : (rest.map fun v => v.category).sum ≤ 8) (hRm : d + 1 ≤ R.frames ∧ 8 + (maxL + 11) + 40 * d ≤ R.locals) (hf : cells + mc ≤ R.cells ∧ slots + ms ≤ R.slots) (hdg : decode cc pc = .ok (.invokespecial index, 3))
    (kk : ∀ (u : va_W) (H1 : Heap) (locs1 : List Loc), post u → WD g A s H1 locs1 (wr ++ u) → W p l e R s m args below meth c H1 locs1 (cells + mc) (slots + ms) Q (F0 m (pc + 3) ls (rest))) : W p l e R s m args below meth c H locs cells slots Q (F0 m pc ls stk) := by
  have hF : ∀ q, va_A wc H.size q → A q := va_free hW.2.1 hW.2.2 X.2.2.2.2.2.2.2.1 isC hC
  exact va_callv (va_runI (As := As) (rest := rest) ⟨X.1, X.2.1, X.2.2.1, X.2.2.2.1, X.2.2.2.2.1⟩ (hM H.size) (k_cwI X hV hRm) ⟨PRE.blind, fun U hU hWm => ⟨rfl, k_pre X hW isC hC hnC U hU hWm⟩⟩ rfl hn hls hstk (lv_room hroom) hdg hf) hW.2.2 (fun q _ h => hF q h) hF (fun u t H1 locs1 ht _ hp hB _ hk1 hS => kk u H1 locs1 hp (k_back X hW isC isR hC hR hnR hdis ht hB hk1 hS))
theorem c_INv (X : CTX p l m meth c cc nL s args own g A) (hW : WD g A s H locs ws) {post : va_W → Prop} (hM : MetV l g y bytes maxL none d mc ms (.ref b :: As) wc post) (hV : LIN own index host y bytes maxL n) (isC isR : List Nat) (hC : isC.map (fun i => ws[i]?) = wc.map some) (hnC : va_nd isC = true) (hR : isR.map (fun i => ws[i]?) = wr.map some) (hnR : va_nd isR = true) (hdis : isR.all (fun i => decide (i ∉ isC)) = true) (hn : As.length = n) (hls : ls.size = nL) (hstk : stk = As.reverse ++ .ref b :: rest) (hroom : (rest.map fun v => v.category).sum ≤ 8) (hRm : d + 1 ≤ R.frames ∧ 8 + (maxL + 11) + 40 * d ≤ R.locals) (hf : cells + mc ≤ R.cells ∧ slots + ms ≤ R.slots) (hdg : decode cc pc = .ok (.invokespecial index, 3))
    (kk : ∀ (u : va_W) (H1 : Heap) (locs1 : List Loc), post u → WD g A s H1 locs1 (wr ++ u) → W p l e R s m args below meth c H1 locs1 (cells + mc) (slots + ms) Q (F0 m (pc + 3) ls (rest))) : W p l e R s m args below meth c H locs cells slots Q (F0 m pc ls stk) := by
  have hF : ∀ q, va_A wc H.size q → A q := va_free hW.2.1 hW.2.2 X.2.2.2.2.2.2.2.1 isC hC
  exact va_callv (va_runIN (As := As) (rest := rest) ⟨X.1, X.2.1, X.2.2.1, X.2.2.2.1, X.2.2.2.2.1⟩ (hM H.size) (k_cwIN X hV hRm) ⟨PRE.blind, fun U hU hWm => ⟨rfl, k_pre X hW isC hC hnC U hU hWm⟩⟩ rfl hn hls hstk (lv_room hroom) hdg hf) hW.2.2 (fun q _ h => hF q h) hF (fun u t H1 locs1 ht _ hp hB _ hk1 hS => kk u H1 locs1 hp (k_back X hW isC isR hC hR hnR hdis ht hB hk1 hS))
theorem c_Vq (X : CTX p l m meth c cc nL s args own g A) (hW : WD g A s H locs ws) (q0 : Nat) {ci : Nat} {fs : List Value} {T : u_T} {N : Nat} {ty : Nat → FieldType} (hc : CI ci C T N ty) (he : ws[q0]? = some (b, .inr (ci, fs))) {post : Option Nat → va_W → Prop} (hM : MetQ l g y bytes maxL ret d mc ms (.ref b :: As) wc post) (hV : LV own index C y bytes maxL ret n) (isC isR : List Nat) (hC : isC.map (fun i => ws[i]?) = wc.map some) (hnC : va_nd isC = true) (hR : isR.map (fun i => ws[i]?) = wr.map some) (hnR : va_nd isR = true) (hdis : isR.all (fun i => decide (i ∉ isC)) = true) (hn : As.length = n) (hls : ls.size = nL) (hstk : stk = As.reverse ++ .ref b :: rest) (hroom : (rest.map fun v => v.category).sum ≤ 8) (hRm : d + 1 ≤ R.frames ∧ 8 + (maxL + 11) + 40 * d ≤ R.locals) (hf : cells + mc ≤ R.cells ∧ slots + ms ≤ R.slots) (hdg : decode cc pc = .ok (.invokevirtual index, 3))
    (kk : ∀ (r : Option Nat) (u : va_W) (H1 : Heap) (locs1 : List Loc), post r u → WD g A s H1 locs1 (wr ++ u) → W p l e R s m args below meth c H1 locs1 (cells + mc) (slots + ms) Q (F0 m (pc + 3) ls (va_rf r :: rest))) : W p l e R s m args below meth c H locs cells slots Q (F0 m pc ls stk) := by
  have hF : ∀ q, va_A wc H.size q → A q := va_free hW.2.1 hW.2.2 X.2.2.2.2.2.2.2.1 isC hC
  exact va_callq (va_runV (As := As) (rest := rest) ⟨X.1, X.2.1, X.2.2.1, X.2.2.2.1, X.2.2.2.2.1⟩ (hM H.size) (k_cwV X hV hRm) ⟨PRE.blind, k_recv X hW q0 hc he, fun U hU hWm => ⟨rfl, k_pre X hW isC hC hnC U hU hWm⟩⟩ rfl hn hls hstk (lv_room hroom) hdg hf) hW.2.2 (fun q _ h => hF q h) hF (fun r u t H1 locs1 ht _ hp hB _ hk1 hS => kk r u H1 locs1 hp (k_back X hW isC isR hC hR hnR hdis ht hB hk1 hS))
end
-- ends
theorem e_i (X : CTX p l m meth c cc nL s args own g A) {post : Int32 → va_W → Prop} {mc ms : Nat} (hQ : MQ below (va_Qi post (BO g A) A) args s mc ms A = Q) (hr : meth.sig.returnType = some .int) (hW : WD g A s H locs ws) {v : Int32} (is : List Nat) {u : va_W} (hn : va_nd is = true) (hu : is.map (fun i => ws[i]?) = u.map some) (hp : post v u) (hf : cells ≤ mc ∧ slots ≤ ms) (hdg : decode cc pc = .ok (.ireturn, 1)) : W p l e R s m args below meth c H locs cells slots Q (F0 m pc ls [.int v]) := by
  subst hQ
  have h1 := hW.pick is hn hu
  refine W.widen hf.1 hf.2 ?_
  exact W.iret X.1 X.2.1 hr (fun t ht _ => ⟨⟨v, u, rfl, hp, by rw [ht]; exact h1.1, h1.2.1⟩, hW.2.2.F ht⟩) hW.2.2.2.2 hdg X.2.2.2.2.2.2.2.2
theorem e_z (X : CTX p l m meth c cc nL s args own g A) {post : Int32 → va_W → Prop} {mc ms : Nat} (hQ : MQ below (va_Qi post (BO g A) A) args s mc ms A = Q) (hr : meth.sig.returnType = some .boolean) (hW : WD g A s H locs ws) {v : Int32} (hz : narrow .boolean (.int v) = .int v) (is : List Nat) {u : va_W} (hn : va_nd is = true) (hu : is.map (fun i => ws[i]?) = u.map some) (hp : post v u) (hf : cells ≤ mc ∧ slots ≤ ms) (hdg : decode cc pc = .ok (.ireturn, 1)) : W p l e R s m args below meth c H locs cells slots Q (F0 m pc ls [.int v]) := by
  subst hQ
  have h1 := hW.pick is hn hu
  refine W.widen hf.1 hf.2 ?_
  exact W.zret X.1 X.2.1 hr hz (fun t ht _ => ⟨⟨v, u, rfl, hp, by rw [ht]; exact h1.1, h1.2.1⟩, hW.2.2.F ht⟩) hW.2.2.2.2 hdg X.2.2.2.2.2.2.2.2
theorem e_l (X : CTX p l m meth c cc nL s args own g A) {post : Int64 → va_W → Prop} {mc ms : Nat} (hQ : MQ below (va_Ql post (BO g A) A) args s mc ms A = Q) (hr : meth.sig.returnType = some .long) (hW : WD g A s H locs ws) {v : Int64} (is : List Nat) {u : va_W} (hn : va_nd is = true) (hu : is.map (fun i => ws[i]?) = u.map some) (hp : post v u) (hf : cells ≤ mc ∧ slots ≤ ms) (hdg : decode cc pc = .ok (.lreturn, 1)) : W p l e R s m args below meth c H locs cells slots Q (F0 m pc ls [.long v]) := by
  subst hQ
  have h1 := hW.pick is hn hu
  refine W.widen hf.1 hf.2 ?_
  exact W.lret X.1 X.2.1 hr (fun t ht _ => ⟨⟨v, u, rfl, hp, by rw [ht]; exact h1.1, h1.2.1⟩, hW.2.2.F ht⟩) hW.2.2.2.2 hdg X.2.2.2.2.2.2.2.2
theorem e_v (X : CTX p l m meth c cc nL s args own g A) {post : va_W → Prop} {mc ms : Nat} (hQ : MQ below (va_Qv post (BO g A) A) args s mc ms A = Q) (hr : meth.sig.returnType = none) (hW : WD g A s H locs ws) (is : List Nat) {u : va_W} (hn : va_nd is = true) (hu : is.map (fun i => ws[i]?) = u.map some) (hp : post u) (hf : cells ≤ mc ∧ slots ≤ ms) (hdg : decode cc pc = .ok (.return_, 1)) : W p l e R s m args below meth c H locs cells slots Q (F0 m pc ls []) := by
  subst hQ
  have h1 := hW.pick is hn hu
  refine W.widen hf.1 hf.2 ?_
  exact W.vret X.1 X.2.1 hr (fun t ht _ => ⟨⟨u, rfl, hp, by rw [ht]; exact h1.1, h1.2.1⟩, hW.2.2.F ht⟩) hW.2.2.2.2 hdg X.2.2.2.2.2.2.2.2
theorem e_q (X : CTX p l m meth c cc nL s args own g A) {post : Option Nat → va_W → Prop} {mc ms : Nat} (hQ : MQ below (va_Qq post (BO g A) A) args s mc ms A = Q) {rt : FieldType} (hr : meth.sig.returnType = some rt) (hrt : (∃ n, rt = .object n) ∨ ∃ t, rt = .array t) (hW : WD g A s H locs ws) (o : Option Nat) {v : Value} (hv : va_rf o = v) (is : List Nat) {u : va_W} (hn : va_nd is = true) (hu : is.map (fun i => ws[i]?) = u.map some) (hp : post o u) (hf : cells ≤ mc ∧ slots ≤ ms) (hdg : decode cc pc = .ok (.areturn, 1)) : W p l e R s m args below meth c H locs cells slots Q (F0 m pc ls [v]) := by
  subst hQ
  have h1 := hW.pick is hn hu
  subst hv
  refine W.widen hf.1 hf.2 ?_
  exact W.aret X.1 X.2.1 hr hrt (va_rf_or o) (fun t ht _ => ⟨⟨o, u, rfl, hp, by rw [ht]; exact h1.1, h1.2.1⟩, hW.2.2.F ht⟩) hW.2.2.2.2 hdg X.2.2.2.2.2.2.2.2
end
theorem MetI.of {l : Launch} {g : GG} {y : MethodName} {cc : ByteArray} {nL : Nat} {r : Option FieldType} {d mc ms : Nat} {As : List Value} {ws : va_W} {post : Int32 → va_W → Prop} {own : String} (ho : y.cls = own) (hy : plainName y.cls = true) (hA : (lg_sl As).length ≤ nL)
    (body : ∀ (p : Program) (e : Env) (s : State) (m : MethodId) (below : List Frame) (meth : Method) (c : Code) (A : Nat → Prop) (ls : Array Slot) (args : Array Value) (Q : State → Prop), MQ below (va_Qi post (BO g A) A) args s mc ms A = Q → CTX p l m meth c cc nL s args own g A → meth.sig.returnType = r → meth.name = y.name → WD g A s s.heap [] ws → lv_has ls nL (lv_args 0 As) → W p l e (RM d mc ms) s m args below meth c s.heap [] 0 0 Q (F0 m 0 ls [])) : MetI l g y cc nL r d mc ms As ws post := by
  intro sz
  refine Met.ofW (cc := cc) (maxL := nL) (ret := r) hy rfl ?_
  intro p e s m args below meth c s₁ B hml hv
  obtain ⟨rfl, hsz, hP, hK, hD0, hT⟩ := hv
  subst hsz
  have hts := atoms_spec (ws := WW y cc nL r) B.pre
  have hl := lv_entry As (n := nL) hA
  rw [lg_entry_eq]
  exact body p e s m below meth c _ _ _ _ rfl ⟨B.exec, B.bytes, hml, by rw [← ho]; exact findClass_of_methodNamed B.named, fun w h => hts w (List.mem_cons_of_mem _ h), hK, hT, fun q h => Or.inr h, B.notSynchronized⟩ B.returns (name_of_methodNamed B.named B.method).1 ⟨hP, hD0.self, va_S.rf⟩ hl
theorem MetL.of {l : Launch} {g : GG} {y : MethodName} {cc : ByteArray} {nL : Nat} {r : Option FieldType} {d mc ms : Nat} {As : List Value} {ws : va_W} {post : Int64 → va_W → Prop} {own : String} (ho : y.cls = own) (hy : plainName y.cls = true) (hA : (lg_sl As).length ≤ nL)
    (body : ∀ (p : Program) (e : Env) (s : State) (m : MethodId) (below : List Frame) (meth : Method) (c : Code) (A : Nat → Prop) (ls : Array Slot) (args : Array Value) (Q : State → Prop), MQ below (va_Ql post (BO g A) A) args s mc ms A = Q → CTX p l m meth c cc nL s args own g A → meth.sig.returnType = r → meth.name = y.name → WD g A s s.heap [] ws → lv_has ls nL (lv_args 0 As) → W p l e (RM d mc ms) s m args below meth c s.heap [] 0 0 Q (F0 m 0 ls [])) : MetL l g y cc nL r d mc ms As ws post := by
  intro sz
  refine Met.ofW (cc := cc) (maxL := nL) (ret := r) hy rfl ?_
  intro p e s m args below meth c s₁ B hml hv
  obtain ⟨rfl, hsz, hP, hK, hD0, hT⟩ := hv
  subst hsz
  have hts := atoms_spec (ws := WW y cc nL r) B.pre
  have hl := lv_entry As (n := nL) hA
  rw [lg_entry_eq]
  exact body p e s m below meth c _ _ _ _ rfl ⟨B.exec, B.bytes, hml, by rw [← ho]; exact findClass_of_methodNamed B.named, fun w h => hts w (List.mem_cons_of_mem _ h), hK, hT, fun q h => Or.inr h, B.notSynchronized⟩ B.returns (name_of_methodNamed B.named B.method).1 ⟨hP, hD0.self, va_S.rf⟩ hl
theorem MetV.of {l : Launch} {g : GG} {y : MethodName} {cc : ByteArray} {nL : Nat} {r : Option FieldType} {d mc ms : Nat} {As : List Value} {ws : va_W} {post : va_W → Prop} {own : String} (ho : y.cls = own) (hy : plainName y.cls = true) (hA : (lg_sl As).length ≤ nL)
    (body : ∀ (p : Program) (e : Env) (s : State) (m : MethodId) (below : List Frame) (meth : Method) (c : Code) (A : Nat → Prop) (ls : Array Slot) (args : Array Value) (Q : State → Prop), MQ below (va_Qv post (BO g A) A) args s mc ms A = Q → CTX p l m meth c cc nL s args own g A → meth.sig.returnType = r → meth.name = y.name → WD g A s s.heap [] ws → lv_has ls nL (lv_args 0 As) → W p l e (RM d mc ms) s m args below meth c s.heap [] 0 0 Q (F0 m 0 ls [])) : MetV l g y cc nL r d mc ms As ws post := by
  intro sz
  refine Met.ofW (cc := cc) (maxL := nL) (ret := r) hy rfl ?_
  intro p e s m args below meth c s₁ B hml hv
  obtain ⟨rfl, hsz, hP, hK, hD0, hT⟩ := hv
  subst hsz
  have hts := atoms_spec (ws := WW y cc nL r) B.pre
  have hl := lv_entry As (n := nL) hA
  rw [lg_entry_eq]
  exact body p e s m below meth c _ _ _ _ rfl ⟨B.exec, B.bytes, hml, by rw [← ho]; exact findClass_of_methodNamed B.named, fun w h => hts w (List.mem_cons_of_mem _ h), hK, hT, fun q h => Or.inr h, B.notSynchronized⟩ B.returns (name_of_methodNamed B.named B.method).1 ⟨hP, hD0.self, va_S.rf⟩ hl
theorem MetQ.of {l : Launch} {g : GG} {y : MethodName} {cc : ByteArray} {nL : Nat} {r : Option FieldType} {d mc ms : Nat} {As : List Value} {ws : va_W} {post : Option Nat → va_W → Prop} {own : String} (ho : y.cls = own) (hy : plainName y.cls = true) (hA : (lg_sl As).length ≤ nL)
    (body : ∀ (p : Program) (e : Env) (s : State) (m : MethodId) (below : List Frame) (meth : Method) (c : Code) (A : Nat → Prop) (ls : Array Slot) (args : Array Value) (Q : State → Prop), MQ below (va_Qq post (BO g A) A) args s mc ms A = Q → CTX p l m meth c cc nL s args own g A → meth.sig.returnType = r → meth.name = y.name → WD g A s s.heap [] ws → lv_has ls nL (lv_args 0 As) → W p l e (RM d mc ms) s m args below meth c s.heap [] 0 0 Q (F0 m 0 ls [])) : MetQ l g y cc nL r d mc ms As ws post := by
  intro sz
  refine Met.ofW (cc := cc) (maxL := nL) (ret := r) hy rfl ?_
  intro p e s m args below meth c s₁ B hml hv
  obtain ⟨rfl, hsz, hP, hK, hD0, hT⟩ := hv
  subst hsz
  have hts := atoms_spec (ws := WW y cc nL r) B.pre
  have hl := lv_entry As (n := nL) hA
  rw [lg_entry_eq]
  exact body p e s m below meth c _ _ _ _ rfl ⟨B.exec, B.bytes, hml, by rw [← ho]; exact findClass_of_methodNamed B.named, fun w h => hts w (List.mem_cons_of_mem _ h), hK, hT, fun q h => Or.inr h, B.notSynchronized⟩ B.returns (name_of_methodNamed B.named B.method).1 ⟨hP, hD0.self, va_S.rf⟩ hl

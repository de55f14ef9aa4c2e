/-! rows that know the addresses of what they make -/
section
variable {p : Program} {l : Launch} {e : Env} {R : Room} {s : State} {m : MethodId} {args : Array Value} {below : List Frame} {meth : Method} {c : Code} {H : Heap} {locs : List Loc} {cells slots : Nat} {Q : State → Prop}
variable {cc : ByteArray} {pc nL : Nat} {ls : Array Slot} {rest stk : List Value} {own : String} {g : GG} {A : Nat → Prop} {ws ws' wc wr : va_W} {a b z : Nat}
variable {index n maxL d mc ms : Nat} {y : MethodName} {host : String} {bytes : ByteArray} {As : List Value}
theorem r_newE (X : CTX p l m meth c cc nL s args own g A) (hW : WD g A s H locs ws) (hz : H.size = z) {ci : Nat} {C : String} {T : u_T} {N : Nat} {ty : Nat → FieldType} (hc : CI ci C T N ty) (h1 : Cond.classLink own index C ∈ BW) (h2 : Cond.instantiable C N ∈ BW) (h3 : Cond.initialized C ∈ BW) {fs : List Value} (hfs : (List.range N).all (fun j => decide (defaultValue (ty j) = vp_V fs j)) = true) (hf : cells + 1 ≤ R.cells ∧ slots + N ≤ R.slots) (hdg : decode cc pc = .ok (.new index, 3))
    (kk : ∀ (H1 : Heap), H1.size = z + 1 → (∀ q : Nat, q < z → H1[q]? = H[q]?) → WD g A s H1 locs (ws ++ [(z, .inr (ci, fs))]) → W p l e R s m args below meth c H1 locs (cells + 1) (slots + N) Q (F0 m (pc + 3) ls (.ref z :: rest))) : W p l e R s m args below meth c H locs cells slots Q (F0 m pc ls rest) := by
  subst hz
  have hK := X.2.2.2.2.2.1.1.1 ci _ hc.1
  refine W.newcK X.1 X.2.1 X.2.2.2.1 (X.2.2.2.2.1 _ h1) (X.2.2.2.2.1 _ h2) (X.2.2.2.2.1 _ h3) rfl hdg hf.1 hf.2 hK.2.1 rfl fun H1 kC hkC e1 z1 o1 => ?_
  obtain ⟨hP, hD, hS⟩ := hW
  refine kk H1 z1 o1 ⟨(hP.kept fun k x hx => o1 x.1 (hP k x hx).lt).app fun k x hx => ?_, hD.push hP rfl (X.2.2.2.2.2.2.2.1 _ hS.1), Nat.le_trans hS.1 (by omega), fun x h4 h5 => (o1 x (Nat.lt_of_lt_of_le h4 hS.1)).trans (hS.2.1 x h4 h5), hS.2.2⟩
  cases k with
  | succ k => simp at hx
  | zero =>
    cases hx
    exact ⟨_, hc.1, (u_born ty X.2.2.2.2.1 hc.2.1 hK hkC e1 hc.2.2.1).to fun j hj => of_decide_eq_true (List.all_eq_true.mp hfs j (List.mem_range.mpr hj))⟩
theorem r_newaE (X : CTX p l m meth c cc nL s args own g A) (hW : WD g A s H locs ws) (hz : H.size = z) (atype : ArrayType) {ty : FieldType} (hty : newarray.typeOf atype = ty) (harr : Cond.arrayClass ty ∈ BW) (t0 : Nat) {cA : ClassId} (ht : (TYS g)[t0]? = some (cA, ty)) (hto : ∀ C, ty ≠ .object C) {i : Int32} {N : Nat} {a0 : vp_A} (ha : ∀ cA : ClassId, vp_cell cA a0 = arrV cA N (fun _ => defaultValue ty)) (hn : ¬ i < 0) (hN : i.toNatClampNeg = N) (hb9 : N * componentBytes ty ≤ 536870912) (hf : cells + 1 ≤ R.cells ∧ slots + N ≤ R.slots) (hdg : decode cc pc = .ok (.newarray atype, 2))
    (kk : ∀ (H1 : Heap), H1.size = z + 1 → WD g A s H1 locs (ws ++ [(z, .inl (cA, a0))]) → W p l e R s m args below meth c H1 locs (cells + 1) (slots + N) Q (F0 m (pc + 2) ls (.ref z :: rest))) : W p l e R s m args below meth c H locs cells slots Q (F0 m pc ls (.int i :: rest)) := by
  subst hz
  subst hty
  refine va_newaK X.1 X.2.1 (X.2.2.2.2.1 _ harr) rfl hdg rfl hn hN hb9 hf.1 hf.2 rfl fun H1 cB e1 z1 o1 hAr hNm => ?_
  have hcB : cB = cA := by
    have h2 := (X.2.2.2.2.2.1.1.2 t0 _ ht).2
    cases atype <;> exact Option.some.inj (hNm.symm.trans h2)
  subst hcB
  obtain ⟨hP, hD, hS⟩ := hW
  refine kk H1 z1 ⟨(hP.kept fun k x hx => o1 x.1 (hP k x hx).lt).app fun k x hx => ?_, hD.push hP rfl (X.2.2.2.2.2.2.2.1 _ hS.1), Nat.le_trans hS.1 (by omega), fun x h4 h5 => (o1 x (Nat.lt_of_lt_of_le h4 hS.1)).trans (hS.2.1 x h4 h5), hS.2.2⟩
  cases k with
  | succ k => simp at hx
  | zero =>
    cases hx
    show H1[H.size]? = some (vp_cell _ _)
    rw [ha]
    exact e1
theorem r_putFE (X : CTX p l m meth c cc nL s args own g A) (hin : meth.name = "<init>") (hW : WD g A s H locs ws) (hz : H.size = z) (q0 : Nat) {ci : Nat} {C ref : String} {T : u_T} {N : Nat} {ty : Nat → FieldType} (hc : CI ci C T N ty) (k : Nat) {fs : List Value} (he : ws[q0]? = some (a, .inr (ci, fs))) (hk : k < N) (hl : Cond.fieldLink own index ref (T k).2.1 (T k).2.2.1 ∈ BW) (href : (T k).1 = ref) (hfin : (T k).2.2.2 = true) (hdecl : (T k).1 = own) {v : Value} (hn : narrow (ty k) v = v) (hfit : fits (ty k) v = true) (hlt : k < fs.length) (hws : ws.set q0 (a, .inr (ci, fs.set k v)) = ws') (hdg : decode cc pc = .ok (.putfield index, 3))
    (kk : ∀ (H1 : Heap) (locs1 : List Loc), H1.size = z → WD g A s H1 locs1 ws' → W p l e R s m args below meth c H1 locs1 cells slots Q (F0 m (pc + 3) ls rest)) : W p l e R s m args below meth c H locs cells slots Q (F0 m pc ls (v :: .ref a :: rest)) := by
  subst hws
  have hap := va_apart (own := own) X.2.2.2.2.1 hc.2.1 ty hc.2.2.1 hc.2.2.2 X.2.2.2.2.2.1.1 hc.1
  obtain ⟨hP, hD, hS⟩ := hW
  obtain ⟨r, hr1, cell, q1, q2, q3, q4⟩ := hP q0 _ he
  have hre : r = (C, T, N) := Option.some.inj (hr1.symm.trans hc.1)
  subst hre
  obtain ⟨hSl, hfc, kC, hkC, hkind⟩ := X.2.2.2.2.2.1.1.1 ci _ hc.1
  obtain ⟨cf, kf, fi, fd, hi, hsl⟩ := hSl k hk
  have hlay := X.2.2.2.2.1 _ (hc.2.1 _ (u_in_lay hk))
  unfold u_lay at hlay
  rw [if_pos hfin] at hlay
  have hst := (u_facts hfc hkC (u_lays X.2.2.2.2.1 hc.2.1 hk) hi).1
  have hcf : m.cls = cf := by
    obtain ⟨_, _, c', _, _, _, -, -, hf', -, -, -, hown2, -⟩ := Cond.laysFinal_spec hlay
    have e1 : c' = cf := by have := hi.symm.trans hf'; simp at this; exact this.1.symm
    rw [hdecl] at hown2
    rw [← e1]; exact Option.some.inj (X.2.2.2.1.symm.trans hown2)
  have h6 := u_fits hfc hkC hkind (Or.inr hlay) hi (hc.2.2.1 k hk) hn hfit
  refine W.putFinK X.1 X.2.1 X.2.2.2.1 (X.2.2.2.2.1 _ hl) (href ▸ hi) hst hcf hin (by rw [q2]; exact h6) q1 q3 (by rw [hsl]; exact k2_hasslot (q4 k hk)) rfl rfl hdg fun H1 e1 e2 e3 => ?_
  rw [hsl] at e1 ⊢
  exact kk H1 _ (e2.trans hz) ⟨hP.set hD he ⟨_, hc.1, t_OB.to (V := updV (vp_V fs) k v) ⟨_, e1, q2, q3, t_set q4 hap hk v⟩ (fun j _ => vp_updV_set hlt v j)⟩ e3, hD.set he, hS.put e2 e3 (hD.2 q0 _ he)⟩
theorem r_putE (X : CTX p l m meth c cc nL s args own g A) (hW : WD g A s H locs ws) (hz : H.size = z) (q0 : Nat) {ci : Nat} {C ref : String} {T : u_T} {N : Nat} {ty : Nat → FieldType} (hc : CI ci C T N ty) (k : Nat) {fs : List Value} (he : ws[q0]? = some (a, .inr (ci, fs))) (hk : k < N) (hl : Cond.fieldLink own index ref (T k).2.1 (T k).2.2.1 ∈ BW) (href : (T k).1 = ref) (hfin : (T k).2.2.2 = false) {v : Value} (hn : narrow (ty k) v = v) (hfit : fits (ty k) v = true) (hlt : k < fs.length) (hws : ws.set q0 (a, .inr (ci, fs.set k v)) = ws') (hdg : decode cc pc = .ok (.putfield index, 3))
    (kk : ∀ (H1 : Heap) (locs1 : List Loc), H1.size = z → WD g A s H1 locs1 ws' → W p l e R s m args below meth c H1 locs1 cells slots Q (F0 m (pc + 3) ls rest)) : W p l e R s m args below meth c H locs cells slots Q (F0 m pc ls (v :: .ref a :: rest)) := by
  subst hws
  have hap := va_apart (own := own) X.2.2.2.2.1 hc.2.1 ty hc.2.2.1 hc.2.2.2 X.2.2.2.2.2.1.1 hc.1
  obtain ⟨hP, hD, hS⟩ := hW
  obtain ⟨r, hr1, cell, q1, q2, q3, q4⟩ := hP q0 _ he
  have hre : r = (C, T, N) := Option.some.inj (hr1.symm.trans hc.1)
  subst hre
  obtain ⟨hSl, hfc, kC, hkC, hkind⟩ := X.2.2.2.2.2.1.1.1 ci _ hc.1
  obtain ⟨cf, kf, fi, fd, hi, hsl⟩ := hSl k hk
  have hlay := X.2.2.2.2.1 _ (hc.2.1 _ (u_in_lay hk))
  unfold u_lay at hlay
  rw [if_neg (by rw [hfin]; decide)] at hlay
  have hst := (u_facts hfc hkC (u_lays X.2.2.2.2.1 hc.2.1 hk) hi).1
  have h6 := u_store hfc hkC hkind hlay hi (hc.2.2.1 k hk) hn hfit
  refine W.putK X.1 X.2.1 (f := fd) ⟨X.2.2.2.1, X.2.2.2.2.1 _ hl, ⟨_, _, _, href ▸ hi⟩, hst⟩ (by rw [q2]; exact h6) q1 q3 (by rw [hsl]; exact k2_hasslot (q4 k hk)) rfl rfl hdg fun H1 e1 e2 e3 => ?_
  rw [hsl] at e1 ⊢
  exact kk H1 _ (e2.trans hz) ⟨hP.set hD he ⟨_, hc.1, t_OB.to (V := updV (vp_V fs) k v) ⟨_, e1, q2, q3, t_set q4 hap hk v⟩ (fun j _ => vp_updV_set hlt v j)⟩ e3, hD.set he, hS.put e2 e3 (hD.2 q0 _ he)⟩
/-- a constructor's contract right behind its new -/
def MetVz (l : Launch) (g : GG) (y : MethodName) (c : ByteArray) (n d mc ms h0 : Nat) (As : List Value) (ws : va_W) (post : va_W → Prop) : Prop :=
  Met l y (WW y c n none) (RM d mc ms) (va_Pc As (PRE g ws (h0 + 1))) (va_Qv post (BO g (va_A ws (h0 + 1))) (va_A ws (h0 + 1))) mc ms (va_A ws (h0 + 1))
theorem k_un {h0 : Nat} {e0 : va_E} {H1 : Heap} (hz : H.size = h0 + 1) (hk1 : ∀ q : Nat, q < H.size → ¬ va_A [(h0, e0)] H.size q → H1[q]? = H[q]?) (q : Nat) (hq : q < h0) : H1[q]? = H[q]? := by
  refine hk1 q (by omega) fun h => ?_
  rcases h with ⟨k, e, h⟩ | h
  · cases k with
    | zero => cases h; omega
    | succ k => simp at h
  · omega
theorem c_Ivz (X : CTX p l m meth c cc nL s args own g A) (hW : WD g A s H locs ws) {e0 : va_E} (hz : H.size = b + 1) {post : va_W → Prop} (hM : MetVz l g y bytes maxL d mc ms b (.ref b :: As) [(b, e0)] post) (hV : LI own index y bytes maxL n) (isC isR : List Nat) (hC : isC.map (fun i => ws[i]?) = [(b, e0)].map some) (hnC : va_nd isC = true) (hR : isR.map (fun i => ws[i]?) = wr.map some) (hnR : va_nd isR = true) (hdis : isR.all (fun i => decide (i ∉ isC)) = true) (hn : As.length = n) (hls : ls.size = nL) (hstk : stk = As.reverse ++ .ref b :: rest) (hroom : (rest.map fun v => v.category).sum ≤ 8) (hRm : d + 1 ≤ R.frames ∧ 8 + (maxL + 11) + 40 * d ≤ R.locals) (hf : cells + mc ≤ R.cells ∧ slots + ms ≤ R.slots) (hdg : decode cc pc = .ok (.invokespecial index, 3))
    (kk : ∀ (u : va_W) (H1 : Heap) (locs1 : List Loc), post u → (∀ q : Nat, q < b → H1[q]? = H[q]?) → WD g A s H1 locs1 (wr ++ u) → W p l e R s m args below meth c H1 locs1 (cells + mc) (slots + ms) Q (F0 m (pc + 3) ls (rest))) : W p l e R s m args below meth c H locs cells slots Q (F0 m pc ls stk) := by
  have hF : ∀ q, va_A [(b, e0)] H.size q → A q := va_free hW.2.1 hW.2.2 X.2.2.2.2.2.2.2.1 isC hC
  unfold MetVz at hM
  rw [← hz] at hM
  exact va_callv (va_runI (As := As) (rest := rest) ⟨X.1, X.2.1, X.2.2.1, X.2.2.2.1, X.2.2.2.2.1⟩ hM (k_cwI X hV hRm) ⟨PRE.blind, fun U hU hWm => ⟨rfl, k_pre X hW isC hC hnC U hU hWm⟩⟩ rfl hn hls hstk (lv_room hroom) hdg hf) hW.2.2 (fun q _ h => hF q h) hF (fun u t H1 locs1 ht _ hp hB _ hk1 hS => kk u H1 locs1 hp (k_un hz hk1) (k_back X hW isC isR hC hR hnR hdis ht hB hk1 hS))
theorem c_INvz (X : CTX p l m meth c cc nL s args own g A) (hW : WD g A s H locs ws) {e0 : va_E} (hz : H.size = b + 1) {post : va_W → Prop} (hM : MetVz l g y bytes maxL d mc ms b (.ref b :: As) [(b, e0)] post) (hV : LIN own index host y bytes maxL n) (isC isR : List Nat) (hC : isC.map (fun i => ws[i]?) = [(b, e0)].map some) (hnC : va_nd isC = true) (hR : isR.map (fun i => ws[i]?) = wr.map some) (hnR : va_nd isR = true) (hdis : isR.all (fun i => decide (i ∉ isC)) = true) (hn : As.length = n) (hls : ls.size = nL) (hstk : stk = As.reverse ++ .ref b :: rest) (hroom : (rest.map fun v => v.category).sum ≤ 8) (hRm : d + 1 ≤ R.frames ∧ 8 + (maxL + 11) + 40 * d ≤ R.locals) (hf : cells + mc ≤ R.cells ∧ slots + ms ≤ R.slots) (hdg : decode cc pc = .ok (.invokespecial index, 3))
    (kk : ∀ (u : va_W) (H1 : Heap) (locs1 : List Loc), post u → (∀ q : Nat, q < b → H1[q]? = H[q]?) → WD g A s H1 locs1 (wr ++ u) → W p l e R s m args below meth c H1 locs1 (cells + mc) (slots + ms) Q (F0 m (pc + 3) ls (rest))) : W p l e R s m args below meth c H locs cells slots Q (F0 m pc ls stk) := by
  have hF : ∀ q, va_A [(b, e0)] H.size q → A q := va_free hW.2.1 hW.2.2 X.2.2.2.2.2.2.2.1 isC hC
  unfold MetVz at hM
  rw [← hz] at hM
  exact va_callv (va_runIN (As := As) (rest := rest) ⟨X.1, X.2.1, X.2.2.1, X.2.2.2.1, X.2.2.2.2.1⟩ hM (k_cwIN X hV hRm) ⟨PRE.blind, fun U hU hWm => ⟨rfl, k_pre X hW isC hC hnC U hU hWm⟩⟩ rfl hn hls hstk (lv_room hroom) hdg hf) hW.2.2 (fun q _ h => hF q h) hF (fun u t H1 locs1 ht _ hp hB _ hk1 hS => kk u H1 locs1 hp (k_un hz hk1) (k_back X hW isC isR hC hR hnR hdis ht hB hk1 hS))
end
theorem MetVz.of {l : Launch} {g : GG} {y : MethodName} {cc : ByteArray} {nL d mc ms h0 : Nat} {As : List Value} {ws : va_W} {post : va_W → Prop} {own : String} (ho : y.cls = own) (hy : plainName y.cls = true) (hA : (lg_sl As).length ≤ nL)
    (body : ∀ (p : Program) (e : Env) (s : State) (m : MethodId) (below : List Frame) (meth : Method) (c : Code) (A : Nat → Prop) (ls : Array Slot) (args : Array Value) (Q : State → Prop), MQ below (va_Qv post (BO g A) A) args s mc ms A = Q → CTX p l m meth c cc nL s args own g A → meth.sig.returnType = none → meth.name = y.name → s.heap.size = h0 + 1 → WD g A s s.heap [] ws → lv_has ls nL (lv_args 0 As) → W p l e (RM d mc ms) s m args below meth c s.heap [] 0 0 Q (F0 m 0 ls [])) : MetVz l g y cc nL d mc ms h0 As ws post := by
  refine Met.ofW (cc := cc) (maxL := nL) (ret := none) hy rfl ?_
  intro p e s m args below meth c s₁ B hml hv
  obtain ⟨rfl, hsz, hP, hK, hD0, hT⟩ := hv
  have hts := atoms_spec (ws := WW y cc nL none) B.pre
  have hl := lv_entry As (n := nL) hA
  rw [lg_entry_eq]
  exact body p e s m below meth c _ _ _ _ rfl ⟨B.exec, B.bytes, hml, by rw [← ho]; exact findClass_of_methodNamed B.named, fun w h => hts w (List.mem_cons_of_mem _ h), hK, hT, fun q h => Or.inr (hsz ▸ h), B.notSynchronized⟩ B.returns (name_of_methodNamed B.named B.method).1 hsz ⟨hP, hD0.self, va_S.rf⟩ hl

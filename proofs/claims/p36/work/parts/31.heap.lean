/-! a heap whose cells keep to their tags' bounds: reading, writing, calling, returning -/
def VR (g : GG) (Γ : Nat → Nat) : List AV → List Value → Prop
  | [], [] => True
  | a :: r, v :: s => avi g Γ a v ∧ VR g Γ r s
  | _, _ => False
theorem VR.get {g : GG} {Γ : Nat → Nat} {a : AV} : ∀ {fs : List AV} {vs : List Value} {k : Nat}, VR g Γ fs vs → fs[k]? = some a → ∃ v, vs[k]? = some v ∧ avi g Γ a v
  | [], [], _, _, h => by cases h
  | b :: r, v :: s, 0, h, e => by cases e; exact ⟨v, rfl, h.1⟩
  | b :: r, v :: s, k + 1, h, e => by
    obtain ⟨w, h1, h2⟩ := VR.get (k := k) h.2 e
    exact ⟨w, h1, h2⟩
  | [], _ :: _, _, h, _ => h.elim
  | _ :: _, [], _, h, _ => h.elim
theorem VR.put {g : GG} {Γ : Nat → Nat} {a : AV} {v : Value} (hv : avi g Γ a v) : ∀ {fs : List AV} {vs : List Value} {k : Nat}, VR g Γ fs vs → fs[k]? = some a → VR g Γ fs (vs.set k v)
  | [], [], _, _, h => by cases h
  | b :: r, w :: s, 0, h, e => by cases e; exact ⟨hv, h.2⟩
  | b :: r, w :: s, k + 1, h, e => ⟨h.1, VR.put hv (k := k) h.2 e⟩
  | [], _ :: _, _, h, _ => h.elim
  | _ :: _, [], _, h, _ => h.elim
theorem VR.len {g : GG} {Γ : Nat → Nat} : ∀ {fs : List AV} {vs : List Value}, VR g Γ fs vs → vs.length = fs.length
  | [], [], _ => rfl
  | _ :: _, _ :: _, h => by rw [List.length_cons, List.length_cons, VR.len h.2]
  | [], _ :: _, h => h.elim
  | _ :: _, [], h => h.elim
def AR (g : GG) (Γ : Nat → Nat) (k n : Nat) (a : AV) : ((Nat → Int32) ⊕ (Nat → Int64) ⊕ (Nat → UInt32) ⊕ (Nat → UInt64) ⊕ (Nat → Option Nat)) → Prop
  | .inl f => (k = 0 ∨ k = 1 ∨ k = 3) ∧ ∀ j : Nat, j < n → avi g Γ a (.int (f j))
  | .inr (.inl _) => k = 2
  | .inr (.inr (.inr (.inr f))) => (k = 4 ∨ k = 5) ∧ ∀ j : Nat, j < n → avi g Γ a (va_rf (f j))
  | _ => False
def cok (g : GG) (ts : TS) (Γ : Nat → Nat) (q : Nat) (H : Heap) : Prop := match ts.1 (Γ q) with
  | .inl (ci, fs) => ∃ vs : List Value, va_at g.1 CLS (q, .inr (ci, vs)) H ∧ VR g Γ fs vs
  | .inr (k, n, a) => ∃ x : vp_A, va_at g.1 CLS (q, .inl (g.2.1 k, x)) H ∧ x.1 = n ∧ AR g Γ k n a x.2
theorem cok.kept {g : GG} {ts : TS} {Γ : Nat → Nat} {q : Nat} {H H1 : Heap} (h : cok g ts Γ q H) (e : H1[q]? = H[q]?) : cok g ts Γ q H1 := by
  unfold cok at h ⊢
  split at h
  · obtain ⟨vs, h1, h2⟩ := h
    exact ⟨vs, h1.kept e, h2⟩
  · obtain ⟨x, h1, h2⟩ := h
    exact ⟨x, h1.kept e, h2⟩
theorem cok.lt {g : GG} {ts : TS} {Γ : Nat → Nat} {q : Nat} {H : Heap} (h : cok g ts Γ q H) : q < H.size := by
  unfold cok at h
  split at h
  · obtain ⟨vs, h1, h2⟩ := h
    exact h1.lt
  · obtain ⟨x, h1, h2⟩ := h
    exact h1.lt
/-- what may change -/
def md (l : List (Nat × Nat)) (t k : Nat) : Bool := l.any fun q => Nat.beq q.1 t && Nat.beq q.2 k
def FE (g : GG) (q ci k : Nat) (H : Heap) (v : Value) : Prop := ∃ (vs : List Value) (r : vw_C), va_at g.1 CLS (q, .inr (ci, vs)) H ∧ CLS[ci]? = some r ∧ k < r.2.2 ∧ vs[k]? = some v
def Un1 (g : GG) (ts : TS) (Γ : Nat → Nat) (mods : List (Nat × Nat)) (q : Nat) (H0 H1 : Heap) : Prop := match ts.1 (Γ q) with
  | .inl (ci, _) => ∀ (k : Nat) (v : Value), md mods (Γ q) k = false → FE g q ci k H0 v → FE g q ci k H1 v
  | .inr _ => md mods (Γ q) 0 = false → H1[q]? = H0[q]?
def Un (g : GG) (ts : TS) (Γ : Nat → Nat) (mods : List (Nat × Nat)) (H0 H1 : Heap) : Prop := ∀ q : Nat, Γ q ≠ 0 → Un1 g ts Γ mods q H0 H1
theorem Un1.same {g : GG} {ts : TS} {Γ : Nat → Nat} {mods : List (Nat × Nat)} {q : Nat} {H0 H1 : Heap} (e : H1[q]? = H0[q]?) : Un1 g ts Γ mods q H0 H1 := by
  unfold Un1
  split
  · intro k v _ h
    obtain ⟨vs, r, h1, h2⟩ := h
    exact ⟨vs, r, h1.kept e, h2⟩
  · exact fun _ => e
theorem Un1.trans {g : GG} {ts : TS} {Γ : Nat → Nat} {mods : List (Nat × Nat)} {q : Nat} {H0 H1 H2 : Heap} (h1 : Un1 g ts Γ mods q H0 H1) (h2 : Un1 g ts Γ mods q H1 H2) : Un1 g ts Γ mods q H0 H2 := by
  unfold Un1 at h1 h2 ⊢
  cases e : ts.1 (Γ q) with
  | inl o => rw [e] at h1 h2; exact fun k v hk h => h2 k v hk (h1 k v hk h)
  | inr o => rw [e] at h1 h2; exact fun hk => (h2 hk).trans (h1 hk)
theorem Un1.mono {g : GG} {ts : TS} {Γ : Nat → Nat} {mods mods' : List (Nat × Nat)} {q : Nat} {H0 H1 : Heap} (h : Un1 g ts Γ mods q H0 H1) (hm : ∀ t k, md mods t k = true → md mods' t k = true) : Un1 g ts Γ mods' q H0 H1 := by
  have key : ∀ t k, md mods' t k = false → md mods t k = false := fun t k h => by
    cases hq : md mods t k with
    | false => rfl
    | true => rw [hm t k hq] at h; cases h
  unfold Un1 at h ⊢
  split at h
  · exact fun k v hk h' => h k v (key _ _ hk) h'
  · exact fun hk => h (key _ _ hk)
/-! what holds of the heap beside the bounds: lines by their places, calls of a plan, rows that were met -/
def AT (g : GG) (k n q : Nat) (f : Nat → Int32) (H : Heap) : Prop := va_at g.1 CLS (q, .inl (g.2.1 k, (n, .inl f))) H
def lsp (j : Nat) : Int × Int := match j with
  | 0 => (0, 6)
  | 1 => (0, 6)
  | 2 => (0, 24)
  | 3 => (0, 24)
  | 4 => (0, 1)
  | _ => (-1, 24)
def lsp5 (j : Nat) : Int × Int := match j with
  | 0 => (0, 4)
  | 1 => (0, 4)
  | _ => lsp j
def INV1 (sp : Nat → Int × Int) (g : GG) (Γ : Nat → Nat) (H : Heap) : Prop := ∀ q : Nat, (Γ q = 25 ∨ Γ q = 113) → ∃ f, AT g 1 72 q f H ∧ ∀ j : Nat, j < 72 → (sp (j % 6)).1 ≤ (f j).toInt ∧ (f j).toInt ≤ (sp (j % 6)).2
def INV2 (g : GG) (Γ : Nat → Nat) (H : Heap) : Prop := ∀ q : Nat, Γ q = 4 → Γ (q + 2) = 32 ∧ Γ (q + 4) = 34 ∧ FE g q 4 3 H (.ref (q + 2)) ∧ FE g q 4 5 H (.ref (q + 4)) ∧ ∃ fk fc, AT g 1 40 (q + 2) fk H ∧ AT g 1 40 (q + 4) fc H ∧ ∀ j : Nat, j < 40 → fk j = 3 ∨ (0 ≤ (fc j).toInt ∧ (fc j).toInt ≤ 6)
def INV3 (g : GG) (Γ : Nat → Nat) (H : Heap) : Prop := ∀ q : Nat, Γ q = 7 → Γ (q + 1) = 44 ∧ Γ (q + 3) = 46 ∧ FE g q 5 0 H (.ref (q + 1)) ∧ FE g q 5 2 H (.ref (q + 3)) ∧ ∃ (n : Nat) (f m : Nat → Int32), FE g q 5 3 H (.int (nI n)) ∧ n ≤ 128 ∧ AT g 1 128 (q + 1) f H ∧ AT g 3 128 (q + 3) m H ∧
  (∀ i : Nat, i < n → ∃ x : Nat, x < 128 ∧ f i = nI x) ∧ (∀ i j : Nat, i < n → j < n → f i = f j → i = j) ∧ ∀ x : Nat, x < 128 → (¬ m x = 0 ↔ ∃ i : Nat, i < n ∧ f i = nI x)
/-- a valley's lines have their ends among its people -/
def INV4 (g : GG) (Γ : Nat → Nat) (H : Heap) : Prop := ∀ q : Nat, Γ q = 3 → Γ (q + 7) = 25 ∧ FE g q 10 9 H (.ref (q + 7)) ∧ ∃ (p n : Nat) (f : Nat → Int32), FE g q 10 0 H (.int (nI p)) ∧ FE g q 10 1 H (.int (nI n)) ∧ p ≤ 7 ∧ n ≤ 12 ∧ AT g 1 72 (q + 7) f H ∧ ∀ i : Nat, i < n → ∃ a b : Nat, a < p ∧ b < p ∧ f (i * 6) = nI a ∧ f (i * 6 + 1) = nI b
def INV14 (g : GG) (Γ : Nat → Nat) (H : Heap) : Prop := INV1 lsp g Γ H ∧ INV4 g Γ H
def INV (g : GG) (ts : TS) (Γ : Nat → Nat) (H : Heap) : Prop := (ts = TS0 → INV14 g Γ H ∧ INV2 g Γ H ∧ INV3 g Γ H) ∧ (ts = TS5 → INV1 lsp5 g Γ H)
theorem Un.arr {g : GG} {ts : TS} {Γ : Nat → Nat} {mods : List (Nat × Nat)} {q t : Nat} {H0 H1 : Heap} {x : Nat × Nat × AV} (h : Un g ts Γ mods H0 H1) (hq : Γ q = t) (ht0 : t ≠ 0) (ht : ts.1 t = .inr x) (hm : md mods t 0 = false) : H1[q]? = H0[q]? := by
  have h1 := h q (by rw [hq]; exact ht0)
  unfold Un1 at h1
  rw [hq, ht] at h1
  exact h1 hm
theorem Un.fld {g : GG} {ts : TS} {Γ : Nat → Nat} {mods : List (Nat × Nat)} {q t ci k : Nat} {fs : List AV} {H0 H1 : Heap} {v : Value} (h : Un g ts Γ mods H0 H1) (hq : Γ q = t) (ht0 : t ≠ 0) (ht : ts.1 t = .inl (ci, fs)) (hm : md mods t k = false) (hF : FE g q ci k H0 v) : FE g q ci k H1 v := by
  have h1 := h q (by rw [hq]; exact ht0)
  unfold Un1 at h1
  rw [hq, ht] at h1
  exact h1 k v hm hF
/-! followed places: fields and places of arrays whose cell is alone of its tag -/
def ELM (g : GG) (q j : Nat) (H : Heap) (v : Value) : Prop := ∃ (n : Nat) (f : Nat → Int32), AT g 1 n q f H ∧ j < n ∧ v = .int (f j)
theorem FE_fun {g : GG} {q ci k : Nat} {H : Heap} {v w : Value} (h1 : FE g q ci k H v) (h2 : FE g q ci k H w) : v = w := by
  obtain ⟨vs, r, ⟨r', a1, c1, a2, a3, a4, a5⟩, b1, b2, b3⟩ := h1
  obtain ⟨us, t, ⟨t', d1, c2, d2, d3, d4, d5⟩, e1, e2, e3⟩ := h2
  have er : t = r := Option.some.inj (e1.symm.trans b1)
  have er1 : r' = r := Option.some.inj (a1.symm.trans b1)
  have er2 : t' = r := Option.some.inj (d1.symm.trans b1)
  subst er er1 er2
  have ec : c2 = c1 := Option.some.inj (d2.symm.trans a2)
  subst ec
  have ev : vp_V us k = vp_V vs k := Option.some.inj ((d5 k b2).symm.trans (a5 k b2))
  rw [vp_V, vp_V, List.getD_eq_getElem?_getD, List.getD_eq_getElem?_getD, e3, b3] at ev
  exact ev.symm
theorem AT_fun {g : GG} {k n n' q j : Nat} {f f' : Nat → Int32} {H : Heap} (h1 : AT g k n q f H) (h2 : AT g k n' q f' H) (hj : j < n) : j < n' ∧ f j = f' j := by
  have e : arrV (g.2.1 k) n (fun j => Value.int (f j)) = arrV (g.2.1 k) n' (fun j => Value.int (f' j)) := Option.some.inj ((show H[q]? = some _ from h1).symm.trans h2)
  have r1 := arrV_read (g.2.1 k) (fun j => Value.int (f j)) hj
  have hs : n = n' := by
    have := congrArg (fun c : Cell => c.slots.size) e
    rw [arrV_size, arrV_size] at this
    exact this
  have r2 := arrV_read (g.2.1 k) (fun j => Value.int (f' j)) (N := n') (j := j) (by omega)
  rw [e, r2] at r1
  refine ⟨by omega, ?_⟩
  exact (Value.int.inj (Option.some.inj r1)).symm
theorem ELM_fun {g : GG} {q j : Nat} {H : Heap} {v w : Value} (h1 : ELM g q j H v) (h2 : ELM g q j H w) : v = w := by
  obtain ⟨n, f, a1, a2, rfl⟩ := h1
  obtain ⟨n', f', b1, b2, rfl⟩ := h2
  rw [(AT_fun a1 b1 a2).2]
def PLC (g : GG) (ts : TS) (t k q : Nat) (H : Heap) (v : Value) : Prop := match ts.1 t with
  | .inl (ci, _) => FE g q ci k H v
  | .inr _ => ELM g q k H v
theorem PLC_fun {g : GG} {ts : TS} {t k q : Nat} {H : Heap} {v w : Value} (h1 : PLC g ts t k q H v) (h2 : PLC g ts t k q H w) : v = w := by
  unfold PLC at h1 h2
  split at h1
  · rename_i e; rw [e] at h2; exact FE_fun h1 h2
  · rename_i e; rw [e] at h2; exact ELM_fun h1 h2
def tmd (ts : TS) (mods : List (Nat × Nat)) (t k : Nat) : Bool := match ts.1 t with
  | .inl _ => md mods t k
  | .inr _ => md mods t 0
def amd (ts : TS) (mods : List (Nat × Nat)) (t : Nat) : Bool := match ts.1 t with
  | .inl _ => true
  | .inr _ => md mods t 0
theorem PLC.keep {g : GG} {ts : TS} {Γ : Nat → Nat} {mods : List (Nat × Nat)} {t k q : Nat} {H H1 : Heap} {v : Value} (h : PLC g ts t k q H v) (hu : Un g ts Γ mods H H1) (hq : Γ q = t) (ht : t ≠ 0) (hm : tmd ts mods t k = false) : PLC g ts t k q H1 v := by
  unfold PLC at h ⊢
  unfold tmd at hm
  cases e : ts.1 t with
  | inl o =>
    obtain ⟨ci, fs⟩ := o
    rw [e] at h hm
    exact hu.fld hq ht e hm h
  | inr o =>
    rw [e] at h hm
    obtain ⟨n, f, a1, a2⟩ := h
    exact ⟨n, f, a1.kept (hu.arr hq ht e hm), a2⟩
theorem ELM.keep {g : GG} {ts : TS} {Γ : Nat → Nat} {mods : List (Nat × Nat)} {t j q : Nat} {H H1 : Heap} {v : Value} (h : ELM g q j H v) (hu : Un g ts Γ mods H H1) (hq : Γ q = t) (ht : t ≠ 0) (hm : amd ts mods t = false) : ELM g q j H1 v := by
  unfold amd at hm
  cases e : ts.1 t with
  | inl o => rw [e] at hm; cases hm
  | inr o =>
    rw [e] at hm
    obtain ⟨n, f, a1, a2⟩ := h
    exact ⟨n, f, a1.kept (hu.arr hq ht e hm), a2⟩
def tgo (i : Nat) : Nat := (i - 1000) / 4096
def plo (i : Nat) : Nat := (i - 1000) % 4096
def fkey (t k : Nat) : Nat := 1000 + 4096 * t + k
theorem tgo_fkey {t k : Nat} (h : k < 4096) : tgo (fkey t k) = t := by
  unfold tgo fkey
  omega
theorem plo_fkey {t k : Nat} (h : k < 4096) : plo (fkey t k) = k := by
  unfold plo fkey
  omega
theorem fkey_ge (t k : Nat) : 1000 ≤ fkey t k := by unfold fkey; omega
def fkd (t : Nat) : Nat := bif Nat.blt t 200 then 0 else bif Nat.blt t 400 then 1 else 2
/-- a followed place: by its tag; by its tag and an argument (300 ..); by its tag and a field of the reference (400 ..) -/
def FACT (g : GG) (ts : TS) (Γ : Nat → Nat) (As : List Value) (i : Nat) (H : Heap) (v : Value) : Prop := match fkd (tgo i) with
  | 0 => tgo i ≠ 0 ∧ ∃ q, Γ q = tgo i ∧ PLC g ts (tgo i) (plo i) q H v
  | 1 => plo i ≠ 0 ∧ ∃ (q : Nat) (j : Int32), Γ q = plo i ∧ As[tgo i - 300]? = some (.int j) ∧ ELM g q j.toNatClampNeg H v
  | _ => plo i ≠ 0 ∧ ∃ (q0 q : Nat) (j : Int32), Γ q0 = 60 ∧ Γ q = plo i ∧ PLC g ts 60 (tgo i - 400) q0 H (.int j) ∧ ELM g q j.toNatClampNeg H v
def fmd (ts : TS) (mods : List (Nat × Nat)) (i : Nat) : Bool := match fkd (tgo i) with
  | 0 => tmd ts mods (tgo i) (plo i)
  | 1 => amd ts mods (plo i)
  | _ => amd ts mods (plo i) || tmd ts mods 60 (tgo i - 400)
theorem FACT.keep {g : GG} {ts : TS} {Γ : Nat → Nat} {As : List Value} {i : Nat} {mods : List (Nat × Nat)} {H H1 : Heap} {v : Value} (h : FACT g ts Γ As i H v) (hu : Un g ts Γ mods H H1) (hm : fmd ts mods i = false) : FACT g ts Γ As i H1 v := by
  unfold FACT at h ⊢
  unfold fmd at hm
  split at h
  · rename_i e
    rw [e] at hm
    obtain ⟨h0, q, h1, h2⟩ := h
    exact ⟨h0, q, h1, h2.keep hu h1 h0 hm⟩
  · rename_i e
    rw [e] at hm
    obtain ⟨h0, q, j, h1, h2, h3⟩ := h
    exact ⟨h0, q, j, h1, h2, h3.keep hu h1 h0 hm⟩
  · rename_i e0 e1
    have hm : (amd ts mods (plo i) || tmd ts mods 60 (tgo i - 400)) = false := by
      split at hm
      · rename_i e; exact absurd e e0
      · rename_i e; exact absurd e e1
      · exact hm
    obtain ⟨m1, m2⟩ := Bool.or_eq_false_iff.mp hm
    obtain ⟨h0, q0, q, j, h1, h2, h3, h4⟩ := h
    exact ⟨h0, q0, q, j, h1, h2, h3.keep hu h1 (by decide) m2, h4.keep hu h2 h0 m1⟩
def FT (g : GG) (ts : TS) (Γ : Nat → Nat) (As : List Value) (fl : List (Nat × Value)) (H : Heap) : Prop := ∀ i v, lka fl i = some v → FACT g ts Γ As i H v
def droP (ts : TS) (mods : List (Nat × Nat)) (i : Nat) : Bool := Nat.blt i 1000 || !(fmd ts mods i)
def dro {α : Type} (ts : TS) (mods : List (Nat × Nat)) (al : List (Nat × α)) : List (Nat × α) := al.filter fun q => droP ts mods q.1
/-- only what is followed stands in such a list -/
def FK (fl : List (Nat × Value)) : Prop := ∀ i v, lka fl i = some v → 1000 ≤ i
theorem FT.keep {g : GG} {ts : TS} {Γ : Nat → Nat} {As : List Value} {fl : List (Nat × Value)} {mods : List (Nat × Nat)} {H H1 : Heap} (h : FT g ts Γ As fl H) (hk : FK fl) (hu : Un g ts Γ mods H H1) : FT g ts Γ As (dro ts mods fl) H1 := fun i v e => by
  rw [dro, lka_filter] at e
  cases hP : droP ts mods i with
  | false => rw [hP] at e; cases e
  | true =>
    rw [hP] at e
    have e : lka fl i = some v := e
    have h1 := hk i v e
    unfold droP at hP
    rw [blt_no h1, Bool.false_or] at hP
    refine (h i v e).keep hu ?_
    cases hm : fmd ts mods i with
    | false => rfl
    | true => rw [hm] at hP; cases hP
theorem FK_dro {fl : List (Nat × Value)} {ts : TS} {mods : List (Nat × Nat)} (h : FK fl) : FK (dro ts mods fl) := fun i v e => by
  rw [dro, lka_filter] at e
  cases hP : droP ts mods i with
  | false => rw [hP] at e; cases e
  | true => rw [hP] at e; exact h i v e
theorem FK.cons {fl : List (Nat × Value)} {i : Nat} {v : Value} (h : FK fl) (hi : 1000 ≤ i) : FK ((i, v) :: fl) := fun j w e => by
  rw [lka] at e
  cases hj : Nat.beq i j with
  | true => rw [← Nat.eq_of_beq_eq_true hj]; exact hi
  | false => rw [hj] at e; exact h j w e
theorem FT.cons {g : GG} {ts : TS} {Γ : Nat → Nat} {As : List Value} {fl : List (Nat × Value)} {H : Heap} {i : Nat} {v : Value} (h : FT g ts Γ As fl H) (hv : FACT g ts Γ As i H v) : FT g ts Γ As ((i, v) :: fl) H := fun j w e => by
  rw [lka] at e
  cases hj : Nat.beq i j with
  | true => rw [hj] at e; cases e; rw [← Nat.eq_of_beq_eq_true hj]; exact hv
  | false => rw [hj] at e; exact h j w e
theorem LR_dro {g : GG} {Γ : Nat → Nat} {al : List (Nat × AV)} {vl fl : List (Nat × Value)} {ts : TS} {mods : List (Nat × Nat)} (h : LR g Γ al (NV vl fl)) : LR g Γ (dro ts mods al) (NV vl (dro ts mods fl)) := fun i a e => by
  rw [dro, lka_filter] at e
  cases hP : droP ts mods i with
  | false => rw [hP] at e; cases e
  | true =>
    rw [hP] at e
    obtain ⟨v, h1, h2⟩ := h i a e
    refine ⟨v, ?_, h2⟩
    by_cases hl : i < 1000
    · rw [NV_lt hl] at h1 ⊢; exact h1
    · rw [NV_ge (by omega)] at h1 ⊢
      rw [dro, lka_filter, hP]; exact h1
theorem NV_dro {vl fl : List (Nat × Value)} {ts : TS} {mods : List (Nat × Nat)} (i : Nat) (v : Value) (hi : i < 1000) (h : NV vl fl i = some v) : NV vl (dro ts mods fl) i = some v := by
  rw [NV_lt hi] at h ⊢; exact h
/-- one more place is followed -/
theorem ELE_cons {vl fl : List (Nat × Value)} {i : Nat} {v : Value} (hi : 1000 ≤ i) (hn : lka fl i = none) : ELE (NV vl fl) (NV vl ((i, v) :: fl)) := fun j w h => by
  by_cases hl : j < 1000
  · rw [NV_lt hl] at h ⊢; exact h
  · rw [NV_ge (by omega)] at h ⊢
    rw [lka]
    cases hj : Nat.beq i j with
    | true => rw [← Nat.eq_of_beq_eq_true hj, hn] at h; cases h
    | false => exact h
def uqt (ts : TS) (t : Nat) : Bool := ts.2.1.any fun u => Nat.beq u t
def UQ (ts : TS) (Γ : Nat → Nat) : Prop := ∀ q q' : Nat, Γ q = Γ q' → uqt ts (Γ q) = true → q = q'
theorem INV1.keep {sp : Nat → Int × Int} {g : GG} {ts : TS} {Γ : Nat → Nat} {mods : List (Nat × Nat)} {H0 H1 : Heap} {x y : Nat × Nat × AV} (h : INV1 sp g Γ H0) (hu : Un g ts Γ mods H0 H1) (hx : ts.1 25 = .inr x) (hy : ts.1 113 = .inr y) (hm : md mods 25 0 = false) (hm2 : md mods 113 0 = false) : INV1 sp g Γ H1 := fun q hq => by
  obtain ⟨f, a1, a2⟩ := h q hq
  rcases hq with hq | hq
  · exact ⟨f, a1.kept (hu.arr hq (by decide) hx hm), a2⟩
  · exact ⟨f, a1.kept (hu.arr hq (by decide) hy hm2), a2⟩
theorem INV14.keep {g : GG} {Γ : Nat → Nat} {mods : List (Nat × Nat)} {H0 H1 : Heap} (h : INV14 g Γ H0) (hu : Un g TS0 Γ mods H0 H1) (gd : ∀ q ∈ [(25, 0), (3, 0), (3, 1), (3, 9), (113, 0)], md mods q.1 q.2 = false) : INV14 g Γ H1 := by
  refine ⟨h.1.keep hu rfl rfl (gd (25, 0) (by decide)) (gd (113, 0) (by decide)), fun q hq => ?_⟩
  obtain ⟨b1, b2, p, n, f, b3, b4, b5, b6, b7, b8⟩ := h.2 q hq
  exact ⟨b1, hu.fld hq (by decide) rfl (gd (3, 9) (by decide)) b2, p, n, f, hu.fld hq (by decide) rfl (gd (3, 0) (by decide)) b3, hu.fld hq (by decide) rfl (gd (3, 1) (by decide)) b4, b5, b6, b7.kept (hu.arr b1 (by decide) rfl (gd (25, 0) (by decide))), b8⟩
theorem INV.keep {g : GG} {ts : TS} {Γ : Nat → Nat} {mods : List (Nat × Nat)} {H0 H1 : Heap} (h : INV g ts Γ H0) (hu : Un g ts Γ mods H0 H1) (hm : ∀ q ∈ GD, md mods q.1 q.2 = false) : INV g ts Γ H1 := by
  have gd : ∀ t k : Nat, (t, k) ∈ GD → md mods t k = false := fun t k h => hm _ h
  refine ⟨fun e => ?_, fun e => ?_⟩
  · subst e
    obtain ⟨h1, h2, h3⟩ := h.1 rfl
    refine ⟨h1.keep hu (fun q hq => ?_), fun q hq => ?_, fun q hq => ?_⟩
    · rcases List.mem_cons.mp hq with rfl | hq
      · exact gd _ _ (by decide)
      · rcases List.mem_cons.mp hq with rfl | hq
        · exact gd _ _ (by decide)
        · rcases List.mem_cons.mp hq with rfl | hq
          · exact gd _ _ (by decide)
          · rcases List.mem_cons.mp hq with rfl | hq
            · exact gd _ _ (by decide)
            · rw [List.mem_singleton.mp hq]; exact gd _ _ (by decide)
    · obtain ⟨b1, b2, b3, b4, fk, fc, b5, b6, b7⟩ := h2 q hq
      exact ⟨b1, b2, hu.fld hq (by decide) rfl (gd _ _ (by decide)) b3, hu.fld hq (by decide) rfl (gd _ _ (by decide)) b4, fk, fc, b5.kept (hu.arr b1 (by decide) rfl (gd _ _ (by decide))), b6.kept (hu.arr b2 (by decide) rfl (gd _ _ (by decide))), b7⟩
    · obtain ⟨b1, b2, b3, b4, n, f, m, b5, b6, b7, b8, b9⟩ := h3 q hq
      exact ⟨b1, b2, hu.fld hq (by decide) rfl (gd _ _ (by decide)) b3, hu.fld hq (by decide) rfl (gd _ _ (by decide)) b4, n, f, m, hu.fld hq (by decide) rfl (gd _ _ (by decide)) b5, b6, b7.kept (hu.arr b1 (by decide) rfl (gd _ _ (by decide))), b8.kept (hu.arr b2 (by decide) rfl (gd _ _ (by decide))), b9⟩
  · subst e
    exact (h.2 rfl).keep hu rfl rfl (gd _ _ (by decide)) (gd _ _ (by decide))
def HT (g : GG) (ts : TS) (Γ : Nat → Nat) (H : Heap) : Prop := (∀ q : Nat, Γ q ≠ 0 → cok g ts Γ q H) ∧ INV g ts Γ H
/-- a place that may be written by table -/
def mdg (l : List (Nat × Nat)) (t k : Nat) : Bool := md l t k && !(md GD t k)
theorem mdg_ok {l : List (Nat × Nat)} {t k : Nat} (h : mdg l t k = true) : md l t k = true ∧ ∀ q ∈ GD, md [(t, k)] q.1 q.2 = false := by
  obtain ⟨h1, h2⟩ := Bool.and_eq_true_iff.mp h
  refine ⟨h1, fun q hq => ?_⟩
  cases e : md [(t, k)] q.1 q.2 with
  | false => rfl
  | true =>
    obtain ⟨r, hr, hr2⟩ := List.any_eq_true.mp e
    rw [List.mem_singleton.mp hr] at hr2
    obtain ⟨z1, z2⟩ := Bool.and_eq_true_iff.mp hr2
    have z1 := Nat.eq_of_beq_eq_true z1
    have z2 := Nat.eq_of_beq_eq_true z2
    dsimp only at z1 z2
    have e2 : md GD t k = true := List.any_eq_true.mpr ⟨q, hq, by rw [z1, z2, Nat.beq_refl, Nat.beq_refl]; rfl⟩
    rw [e2] at h2; cases h2
theorem md_self (t k : Nat) : md [(t, k)] t k = true := List.any_eq_true.mpr ⟨(t, k), List.mem_singleton.mpr rfl, by rw [Nat.beq_refl, Nat.beq_refl]; rfl⟩
def HI (g : GG) (ts : TS) (Γ : Nat → Nat) (mods : List (Nat × Nat)) (s : State) (H : Heap) (locs : List Loc) : Prop :=
  HT g ts Γ H ∧ H.size = s.heap.size ∧ (∀ q : Nat, Γ q = 0 → H[q]? = s.heap[q]?) ∧ (∀ l ∈ locs, Γ l.base ≠ 0) ∧ Un g ts Γ mods s.heap H
def AA (Γ : Nat → Nat) (z : Nat) : Nat → Prop := fun q => Γ q ≠ 0 ∨ z ≤ q
theorem HI.S {g : GG} {ts : TS} {Γ : Nat → Nat} {mods : List (Nat × Nat)} {s : State} {H : Heap} {locs : List Loc} (h : HI g ts Γ mods s H locs) : va_S (AA Γ s.heap.size) s.heap H locs :=
  ⟨by rw [h.2.1]; exact Nat.le_refl _, fun q _ hq => h.2.2.1 q (Classical.byContradiction fun z => hq (Or.inl z)), fun l hl => Or.inl (h.2.2.2.1 l hl)⟩
theorem HI.wr {g : GG} {ts : TS} {Γ : Nat → Nat} {mods : List (Nat × Nat)} {s : State} {H H1 : Heap} {locs : List Loc} {a j : Nat} (h : HI g ts Γ mods s H locs) (ha : Γ a ≠ 0) (hz : H1.size = H.size) (oq : ∀ q : Nat, q ≠ a → H1[q]? = H[q]?) (hc : cok g ts Γ a H1) {k : Nat} (hmd : mdg mods (Γ a) k = true) (hu : Un1 g ts Γ [(Γ a, k)] a H H1) : HI g ts Γ mods s H1 (locs ++ [⟨a, j⟩]) ∧ Un g ts Γ [(Γ a, k)] H H1 := by
  obtain ⟨hm1, hm2⟩ := mdg_ok hmd
  have hm3 : ∀ t k', md [(Γ a, k)] t k' = true → md mods t k' = true := fun t k' hq => by
    obtain ⟨r, hr, hr2⟩ := List.any_eq_true.mp hq
    rw [List.mem_singleton.mp hr] at hr2
    obtain ⟨z1, z2⟩ := Bool.and_eq_true_iff.mp hr2
    rw [← Nat.eq_of_beq_eq_true z1, ← Nat.eq_of_beq_eq_true z2]; exact hm1
  have hun : Un g ts Γ [(Γ a, k)] H H1 := fun q hq => by
    by_cases e : q = a
    · subst e; exact hu
    · exact Un1.same (oq q e)
  refine ⟨⟨⟨fun q hq => ?_, h.1.2.keep hun hm2⟩, hz.trans h.2.1, fun q hq => ?_, fun l hl => ?_, fun q hq => ?_⟩, hun⟩
  · by_cases e : q = a
    · subst e; exact hc
    · exact (h.1.1 q hq).kept (oq q e)
  · rw [oq q (fun e => ha (by rw [← e]; exact hq))]
    exact h.2.2.1 q hq
  · rcases List.mem_append.mp hl with hl | hl
    · exact h.2.2.2.1 l hl
    · rw [List.mem_singleton.mp hl]; exact ha
  · exact (h.2.2.2.2 q hq).trans ((hun q hq).mono hm3)
/-- a field's type, by kind -/
def TC (tc : Nat) (ft : FieldType) : Prop := (tc = 0 ∧ ft = .int) ∨ (tc = 1 ∧ ft = .long) ∨ (tc = 2 ∧ ((∃ n, ft = .object n) ∨ ∃ t, ft = .array t)) ∨ (tc = 3 ∧ ft = .boolean)
def tcok (tc : Nat) (a : AV) : Bool :=
  bif Nat.beq tc 0 then Nat.beq a.1 0 else bif Nat.beq tc 1 then Nat.beq a.1 3 else bif Nat.beq tc 2 then (Nat.beq a.1 1 || (Nat.beq a.1 2 || Nat.beq a.1 4)) else bif Nat.beq tc 3 then Nat.beq a.1 0 && (ile 0 a.2.1 && ile a.2.2 1) else false
theorem bool_01 {x : Int32} (h0 : 0 ≤ x.toInt) (h1 : x.toInt ≤ 1) : x = 0 ∨ x = 1 := by
  have : x.toInt = 0 ∨ x.toInt = 1 := by omega
  rcases this with h | h
  · exact Or.inl (Int32.toInt_inj.mp (by rw [h]; rfl))
  · exact Or.inr (Int32.toInt_inj.mp (by rw [h]; rfl))
theorem nf_ok {g : GG} {Γ : Nat → Nat} {tc : Nat} {ft : FieldType} {a : AV} {v : Value} (h : TC tc ft) (ht : tcok tc a = true) (hv : avi g Γ a v) : narrow ft v = v ∧ fits ft v = true := by
  rcases h with ⟨rfl, rfl⟩ | ⟨rfl, rfl⟩ | ⟨rfl, h⟩ | ⟨rfl, rfl⟩
  · obtain ⟨x, rfl, -⟩ := avi_int ht hv
    exact ⟨rfl, rfl⟩
  · obtain ⟨x, rfl⟩ := avi_long ht hv
    exact ⟨rfl, rfl⟩
  · have hn : a.1 ≠ 0 ∧ a.1 ≠ 3 := by
      rcases Bool.or_eq_true_iff.mp (show (Nat.beq a.1 1 || (Nat.beq a.1 2 || Nat.beq a.1 4)) = true from ht) with q | q
      · have := Nat.eq_of_beq_eq_true q; omega
      · rcases Bool.or_eq_true_iff.mp q with q | q <;> (have := Nat.eq_of_beq_eq_true q; omega)
    cases v with
    | int x => exact absurd hv.1 hn.1
    | long x => exact absurd hv.1 hn.2
    | ref q => rcases h with ⟨n, rfl⟩ | ⟨t, rfl⟩ <;> exact ⟨rfl, rfl⟩
    | null => rcases h with ⟨n, rfl⟩ | ⟨t, rfl⟩ <;> exact ⟨rfl, rfl⟩
    | float x => exact absurd hv id
    | double x => exact absurd hv id
    | retAddr x => exact absurd hv id
  · obtain ⟨p, q⟩ := Bool.and_eq_true_iff.mp (show (Nat.beq a.1 0 && (ile 0 a.2.1 && ile a.2.2 1)) = true from ht)
    obtain ⟨q, r⟩ := Bool.and_eq_true_iff.mp q
    obtain ⟨x, rfl, h1, h2⟩ := avi_int p hv
    have q := ile_ok q
    have r := ile_ok r
    rcases bool_01 (x := x) (by omega) (by omega) with rfl | rfl <;> exact ⟨by decide, by decide⟩
/-- what a link of a field says: by a nest mate; class and place; it may be written; its type -/
def FOK (own : String) (idx : Nat) (e : Bool × Nat × Nat × Bool × Nat) : Prop := ∃ (C : String) (T : u_T) (N : Nat) (ty : Nat → FieldType) (ref host : String), CI e.2.1 C T N ty ∧ e.2.2.1 < N ∧ (T e.2.2.1).1 = ref ∧ (match e.1 with
  | true => Cond.fieldLinkNest own idx ref (T e.2.2.1).2.1 (T e.2.2.1).2.2.1 host ∈ NWS
  | false => Cond.fieldLink own idx ref (T e.2.2.1).2.1 (T e.2.2.1).2.2.1 ∈ BW) ∧ (e.2.2.2.1 = true → (T e.2.2.1).2.2.2 = false) ∧ TC e.2.2.2.2 (ty e.2.2.1)
theorem vpin_of {i : Int32} {n : Nat} {a : AV} (h1 : a.2.1 ≤ i.toInt) (h2 : i.toInt ≤ a.2.2) (hl : 0 ≤ a.2.1) (hh : a.2.2 < (n : Int)) : vp_in i n ∧ i.toNatClampNeg < n := by
  have e : i.toNatClampNeg = i.toInt.toNat := rfl
  have hk : i.toNatClampNeg < n := by rw [e]; omega
  refine ⟨fun h => ?_, hk⟩
  rcases h with h | h
  · have := Int32.lt_iff_toInt_lt.mp h
    have e0 : (0 : Int32).toInt = 0 := rfl
    rw [e0] at this
    omega
  · omega
section
variable {p : Program} {l : Launch} {e : Env} {R : Room} {s : State} {m : MethodId} {args : Array Value} {below : List Frame} {meth : Method} {c : Code} {H : Heap} {locs : List Loc} {cells slots : Nat} {Q : State → Prop}
variable {cc : ByteArray} {pc nL : Nat} {ls : Array Slot} {rest : List Value} {own : String} {g : GG} {ts : TS} {Γ : Nat → Nat} {mods : List (Nat × Nat)} {q z : Nat}
theorem h_get (X : CTX p l m meth c cc nL s args own g (AA Γ z)) (hI : HT g ts Γ H) {idx : Nat} {f : Bool × Nat × Nat × Bool × Nat} (hf : FOK own idx f) (hq : Γ q ≠ 0) {fs : List AV} {a : AV} (ht : ts.1 (Γ q) = .inl (f.2.1, fs)) (hk : fs[f.2.2.1]? = some a) (hdg : decode cc pc = .ok (.getfield idx, 3))
    (kk : ∀ v, avi g Γ a v → FE g q f.2.1 f.2.2.1 H v → W p l e R s m args below meth c H locs cells slots Q (F0 m (pc + 3) ls (v :: rest))) : W p l e R s m args below meth c H locs cells slots Q (F0 m pc ls (.ref q :: rest)) := by
  have hc := hI.1 q hq
  unfold cok at hc
  rw [ht] at hc
  obtain ⟨vs, h1, h2⟩ := hc
  obtain ⟨v, h3, h4⟩ := h2.get hk
  obtain ⟨n, ci, k, w, tc⟩ := f
  obtain ⟨C, T, N, ty, ref, host, hC, hN, hr, hl, -⟩ := hf
  have hP : va_P g.1 CLS [(q, .inr (ci, vs))] H := fun j r hr => by
    cases j with
    | zero => cases hr; exact h1
    | succ j => cases hr
  have hFE : FE g q ci k H v := ⟨vs, _, h1, hC.1, hN, h3⟩
  cases n with
  | true => exact va_getN X.1 X.2.1 X.2.2.2.2.1 hC.2.1 X.2.2.2.1 X.2.2.2.2.2.1.1 hP 0 rfl hC.1 k hN (va_Nw.use rfl (X.2.2.2.2.2.1.2.1 _ hl)) (fun _ h => by rw [← hr]; exact h) h3 hdg (kk v h4 hFE)
  | false => exact va_get X.1 X.2.1 X.2.2.2.2.1 hC.2.1 X.2.2.2.1 X.2.2.2.2.2.1.1 hP 0 rfl hC.1 k hN (X.2.2.2.2.1 _ hl) (fun _ h => by rw [← hr]; exact h) h3 hdg (kk v h4 hFE)
theorem h_put (X : CTX p l m meth c cc nL s args own g (AA Γ z)) (hI : HI g ts Γ mods s H locs) {idx : Nat} {f : Bool × Nat × Nat × Bool × Nat} (hf : FOK own idx f) (hq : Γ q ≠ 0) {fs : List AV} {a b : AV} {v : Value} (ht : ts.1 (Γ q) = .inl (f.2.1, fs)) (hk : fs[f.2.2.1]? = some a) (hw : f.2.2.2.1 = true) (hv : avi g Γ b v) (hb : avle b a = true) (htc : tcok f.2.2.2.2 b = true) (hm : mdg mods (Γ q) f.2.2.1 = true) (hdg : decode cc pc = .ok (.putfield idx, 3))
    (kk : ∀ (H1 : Heap) (locs1 : List Loc), HI g ts Γ mods s H1 locs1 → Un g ts Γ [(Γ q, f.2.2.1)] H H1 → FE g q f.2.1 f.2.2.1 H1 v → W p l e R s m args below meth c H1 locs1 cells slots Q (F0 m (pc + 3) ls rest)) : W p l e R s m args below meth c H locs cells slots Q (F0 m pc ls (v :: .ref q :: rest)) := by
  have hc := hI.1.1 q hq
  unfold cok at hc
  rw [ht] at hc
  obtain ⟨vs, h1, h2⟩ := hc
  obtain ⟨n, ci, k, w, tc⟩ := f
  obtain ⟨C, T, N, ty, ref, host, hC, hN, hr, hl, hfin, hTC⟩ := hf
  dsimp only at hN hr hl hfin hTC hk hw htc hm ht h1
  obtain ⟨hn, hfit⟩ := nf_ok hTC htc hv
  have hkl : k < vs.length := by rw [h2.len]; exact (List.getElem?_eq_some_iff.mp hk).1
  have hap := va_apart (own := own) X.2.2.2.2.1 hC.2.1 ty hC.2.2.1 hC.2.2.2 X.2.2.2.2.2.1.1 hC.1
  obtain ⟨r, hr1, cell, q1, q2, q3, q4⟩ := h1
  have hre : r = (C, T, N) := Option.some.inj (hr1.symm.trans hC.1)
  subst hre
  obtain ⟨hS, hfc, kC, hkC, hkind⟩ := X.2.2.2.2.2.1.1.1 ci _ hC.1
  obtain ⟨cf, kf, fi, fd, hi, hsl⟩ := hS k hN
  have hlay := X.2.2.2.2.1 _ (hC.2.1 _ (u_in_lay hN))
  unfold u_lay at hlay
  rw [if_neg (by rw [hfin hw]; decide)] at hlay
  have hst := (u_facts hfc hkC (u_lays X.2.2.2.2.1 hC.2.1 hN) hi).1
  have h6 := u_store hfc hkC hkind hlay hi (hC.2.2.1 k hN) hn hfit
  have hsm : ∀ x, s.fieldFound? (T k).1 (T k).2.1 (T k).2.2.1 = some x → s.fieldFound? ref (T k).2.1 (T k).2.2.1 = some x := fun _ h => by rw [← hr]; exact h
  have fin : ∀ H' : Heap, H'[q]? = some (cell.setSlot fd.slot v) → H'.size = H.size → (∀ x, x ≠ q → H'[x]? = H[x]?) → W p l e R s m args below meth c H' (locs ++ [⟨q, fd.slot⟩]) cells slots Q (F0 m (pc + 3) ls rest) := by
    intro H' e1 e2 e3
    rw [hsl] at e1
    have hat : va_at g.1 CLS (q, .inr (ci, vs.set k v)) H' := ⟨_, hC.1, t_OB.to (V := updV (vp_V vs) k v) ⟨_, e1, q2, q3, t_set q4 hap hN v⟩ (fun j _ => vp_updV_set hkl v j)⟩
    have hWR := hI.wr (j := fd.slot) hq e2 e3 ?_ hm ?_
    · exact kk H' _ hWR.1 hWR.2 ⟨_, _, hat, hC.1, hN, List.getElem?_set_self hkl⟩
    · unfold cok
      rw [ht]
      exact ⟨_, hat, h2.put (avle_ok hb hv) hk⟩
    · unfold Un1
      rw [ht]
      intro k2 v2 hk2 hF
      obtain ⟨us, r2, ⟨r3, g1, cell2, g2, g3, g4, g5⟩, g6, g7, g8⟩ := hF
      have hne : k2 ≠ k := fun z => by rw [z, md_self] at hk2; cases hk2
      have er2 : r2 = (C, T, N) := Option.some.inj (g6.symm.trans hC.1)
      subst er2
      have er3 : r3 = (C, T, N) := Option.some.inj (g1.symm.trans hC.1)
      subst er3
      have ec : cell2 = cell := Option.some.inj (g2.symm.trans q1)
      subst ec
      have ev : vp_V us k2 = vp_V vs k2 := Option.some.inj ((g5 k2 g7).symm.trans (q4 k2 g7))
      have eu : vp_V us k2 = v2 := by rw [vp_V, List.getD_eq_getElem?_getD, g8]; rfl
      by_cases hl2 : k2 < vs.length
      · refine ⟨vs.set k v, _, hat, hC.1, g7, ?_⟩
        rw [List.getElem?_set_ne (Ne.symm hne), List.getElem?_eq_getElem hl2]
        rw [vp_V, vp_V, List.getD_eq_getElem?_getD, List.getD_eq_getElem?_getD, g8, List.getElem?_eq_getElem hl2] at ev
        exact congrArg some ev.symm
      · refine ⟨us.set k v, _, ⟨_, hC.1, t_OB.to (V := updV (vp_V us) k v) ⟨_, e1, q2, q3, t_set g5 hap hN v⟩ (fun j hj => ?_)⟩, hC.1, g7, ?_⟩
        · by_cases hj2 : k < us.length
          · exact vp_updV_set hj2 v j
          · exact absurd (Nat.lt_of_lt_of_le (List.getElem?_eq_some_iff.mp g8).1 (Nat.le_of_not_lt hj2)) (by omega)
        · rw [List.getElem?_set_ne (Ne.symm hne)]; exact g8
  cases n with
  | true => exact va_WputK X.1 X.2.1 (f := fd) X.2.2.2.1 (va_Nw.use rfl (X.2.2.2.2.2.1.2.1 _ hl)) (hsm _ hi) hst (by rw [q2]; exact h6) q1 q3 (by rw [hsl]; exact k2_hasslot (q4 k hN)) rfl rfl hdg fin
  | false => exact W.putK X.1 X.2.1 (f := fd) ⟨X.2.2.2.1, X.2.2.2.2.1 _ hl, ⟨_, _, _, hsm _ hi⟩, hst⟩ (by rw [q2]; exact h6) q1 q3 (by rw [hsl]; exact k2_hasslot (q4 k hN)) rfl rfl hdg fin

theorem h_at (hI : HT g ts Γ H) (hq : Γ q ≠ 0) {k n : Nat} {a : AV} (ht : ts.1 (Γ q) = .inr (k, n, a)) : ∃ x : vp_A, va_P g.1 CLS [(q, .inl (g.2.1 k, x))] H ∧ x.1 = n ∧ AR g Γ k n a x.2 := by
  have hc := hI.1 q hq
  unfold cok at hc
  rw [ht] at hc
  obtain ⟨x, h1, h2⟩ := hc
  refine ⟨x, fun j r hr => ?_, h2⟩
  cases j with
  | zero => cases hr; exact h1
  | succ j => cases hr
theorem h_iald (X : CTX p l m meth c cc nL s args own g (AA Γ z)) (hI : HT g ts Γ H) (hq : Γ q ≠ 0) {n : Nat} {a ia : AV} (ht : ts.1 (Γ q) = .inr (1, n, a)) {i : Int32} (hi : avi g Γ ia (.int i)) (h0 : 0 ≤ ia.2.1) (h1 : ia.2.2 < (n : Int)) (hdg : decode cc pc = .ok (.iaload, 1))
    (kk : ∀ v, avi g Γ a v → ELM g q i.toNatClampNeg H v → W p l e R s m args below meth c H locs cells slots Q (F0 m (pc + 1) ls (v :: rest))) : W p l e R s m args below meth c H locs cells slots Q (F0 m pc ls (.int i :: .ref q :: rest)) := by
  obtain ⟨⟨n', f⟩, hP, rfl, hA⟩ := h_at hI hq ht
  obtain ⟨hin, hlt⟩ := vpin_of hi.2.1 hi.2.2 h0 h1
  rcases f with f | f | f | f | f
  · exact va_iald X.1 X.2.1 X.2.2.2.2.2.1.1 hP 0 1 rfl rfl hin hdg (kk _ (hA.2 _ hlt) ⟨n', f, hP 0 _ rfl, hlt, rfl⟩)
  · cases (show (1 : Nat) = 2 from hA)
  · exact hA.elim
  · exact hA.elim
  · rcases hA.1 with h | h <;> cases h
theorem h_bald (X : CTX p l m meth c cc nL s args own g (AA Γ z)) (hI : HT g ts Γ H) (hq : Γ q ≠ 0) {k n : Nat} {a ia : AV} (hk : k = 0 ∨ k = 3) (ht : ts.1 (Γ q) = .inr (k, n, a)) {i : Int32} (hi : avi g Γ ia (.int i)) (h0 : 0 ≤ ia.2.1) (h1 : ia.2.2 < (n : Int)) (hdg : decode cc pc = .ok (.baload, 1))
    (kk : ∀ v, avi g Γ a v → W p l e R s m args below meth c H locs cells slots Q (F0 m (pc + 1) ls (v :: rest))) : W p l e R s m args below meth c H locs cells slots Q (F0 m pc ls (.int i :: .ref q :: rest)) := by
  obtain ⟨⟨n', f⟩, hP, rfl, hA⟩ := h_at hI hq ht
  obtain ⟨hin, hlt⟩ := vpin_of hi.2.1 hi.2.2 h0 h1
  rcases f with f | f | f | f | f
  · rcases hk with rfl | rfl
    · exact va_bald X.1 X.2.1 X.2.2.2.2.2.1.1 hP 0 0 rfl rfl hin hdg (kk _ (hA.2 _ hlt))
    · exact va_zald X.1 X.2.1 X.2.2.2.2.2.1.1 hP 0 3 rfl rfl hin hdg (kk _ (hA.2 _ hlt))
  · have hA : k = 2 := hA
    omega
  · exact hA.elim
  · exact hA.elim
  · have hA := hA.1
    omega
theorem h_lald (X : CTX p l m meth c cc nL s args own g (AA Γ z)) (hI : HT g ts Γ H) (hq : Γ q ≠ 0) {n : Nat} {a ia : AV} (ht : ts.1 (Γ q) = .inr (2, n, a)) {i : Int32} (hi : avi g Γ ia (.int i)) (h0 : 0 ≤ ia.2.1) (h1 : ia.2.2 < (n : Int)) (hdg : decode cc pc = .ok (.laload, 1))
    (kk : ∀ v, avi g Γ (3, 0, 0) v → W p l e R s m args below meth c H locs cells slots Q (F0 m (pc + 1) ls (v :: rest))) : W p l e R s m args below meth c H locs cells slots Q (F0 m pc ls (.int i :: .ref q :: rest)) := by
  obtain ⟨⟨n', f⟩, hP, rfl, hA⟩ := h_at hI hq ht
  obtain ⟨hin, hlt⟩ := vpin_of hi.2.1 hi.2.2 h0 h1
  rcases f with f | f | f | f | f
  · rcases hA.1 with h | h | h <;> cases h
  · exact va_lald X.1 X.2.1 X.2.2.2.2.2.1.1 hP 0 2 rfl rfl hin hdg (kk _ (lg0 _))
  · exact hA.elim
  · exact hA.elim
  · rcases hA.1 with h | h <;> cases h
theorem h_aald (X : CTX p l m meth c cc nL s args own g (AA Γ z)) (hI : HT g ts Γ H) (hq : Γ q ≠ 0) {k n : Nat} {a ia : AV} (hk : k = 4 ∨ k = 5) (ht : ts.1 (Γ q) = .inr (k, n, a)) {i : Int32} (hi : avi g Γ ia (.int i)) (h0 : 0 ≤ ia.2.1) (h1 : ia.2.2 < (n : Int)) (hdg : decode cc pc = .ok (.aaload, 1))
    (kk : ∀ v, avi g Γ a v → W p l e R s m args below meth c H locs cells slots Q (F0 m (pc + 1) ls (v :: rest))) : W p l e R s m args below meth c H locs cells slots Q (F0 m pc ls (.int i :: .ref q :: rest)) := by
  obtain ⟨⟨n', f⟩, hP, rfl, hA⟩ := h_at hI hq ht
  obtain ⟨hin, hlt⟩ := vpin_of hi.2.1 hi.2.2 h0 h1
  rcases f with f | f | f | f | f
  · have hA := hA.1
    omega
  · have hA : k = 2 := hA
    omega
  · exact hA.elim
  · exact hA.elim
  · rcases hk with rfl | rfl
    · exact va_aldq X.1 X.2.1 X.2.2.2.2.2.1.1 hP 0 4 rfl rfl hin hdg (kk _ (hA.2 _ hlt))
    · exact va_aldq X.1 X.2.1 X.2.2.2.2.2.1.1 hP 0 5 rfl rfl hin hdg (kk _ (hA.2 _ hlt))
theorem h_alen (X : CTX p l m meth c cc nL s args own g (AA Γ z)) (hI : HT g ts Γ H) (hq : Γ q ≠ 0) {k n : Nat} {a : AV} (hk : k < 6) (hn : n < 2 ^ 31) (ht : ts.1 (Γ q) = .inr (k, n, a)) (hdg : decode cc pc = .ok (.arraylength, 1))
    (kk : ∀ v, avi g Γ (0, .ofNat n, .ofNat n) v → W p l e R s m args below meth c H locs cells slots Q (F0 m (pc + 1) ls (v :: rest))) : W p l e R s m args below meth c H locs cells slots Q (F0 m pc ls (.ref q :: rest)) := by
  obtain ⟨x, hP, hx, hA⟩ := h_at hI hq ht
  have hv : avi g Γ (0, .ofNat n, .ofNat n) (.int (Int32.ofNat x.1)) := by
    have e : (Int32.ofNat x.1).toInt = (n : Int) := by
      rw [hx]
      exact Int32.toInt_ofInt_of_le (n := (n : Int)) (by omega) (by omega)
    exact ⟨rfl, by rw [e]; exact Int.le_refl _, by rw [e]; exact Int.le_refl _⟩
  have ht2 : ∃ ty, (TYS g)[k]? = some (g.2.1 k, ty) := by
    match k, hk with
    | 0, _ => exact ⟨_, rfl⟩
    | 1, _ => exact ⟨_, rfl⟩
    | 2, _ => exact ⟨_, rfl⟩
    | 3, _ => exact ⟨_, rfl⟩
    | 4, _ => exact ⟨_, rfl⟩
    | 5, _ => exact ⟨_, rfl⟩
  obtain ⟨ty, ht2⟩ := ht2
  exact va_alen X.1 X.2.1 X.2.2.2.2.2.1.1 hP 0 k rfl ht2 rfl hdg (kk _ hv)
theorem nar_b {x : Int32} (h0 : -128 ≤ x.toInt) (h1 : x.toInt ≤ 127) : narrow .byte (.int x) = .int x := by
  have e : x.toInt8.toInt32.toInt = x.toInt := by
    rw [Int8.toInt_toInt32, Int32.toInt_toInt8]
    exact Int.bmod_eq_of_le (by omega) (by omega)
  have e2 : x.toInt8.toInt32 = x := Int32.toInt_inj.mp e
  show Value.int x.toInt8.toInt32 = .int x
  rw [e2]
theorem nar_z {x : Int32} (h0 : 0 ≤ x.toInt) (h1 : x.toInt ≤ 1) : narrow .boolean (.int x) = .int x := by
  rcases bool_01 h0 h1 with rfl | rfl <;> decide
theorem h_sto (X : CTX p l m meth c cc nL s args own g (AA Γ z)) (hI : HI g ts Γ mods s H locs) (hq : Γ q ≠ 0) {k n : Nat} {a ia b : AV} {instr : Jvm.ClassFile.Instr} (hk : (k = 1 ∧ instr = .iastore) ∨ (k = 0 ∧ instr = .bastore ∧ -128 ≤ b.2.1 ∧ b.2.2 ≤ 127) ∨ (k = 3 ∧ instr = .bastore ∧ 0 ≤ b.2.1 ∧ b.2.2 ≤ 1)) (ht : ts.1 (Γ q) = .inr (k, n, a)) {i x : Int32} (hi : avi g Γ ia (.int i)) (h0 : 0 ≤ ia.2.1) (h1 : ia.2.2 < (n : Int)) (hx : avi g Γ b (.int x)) (hb : avle b a = true) (hm : mdg mods (Γ q) 0 = true) (hdg : decode cc pc = .ok (instr, 1))
    (kk : ∀ (H1 : Heap) (locs1 : List Loc), HI g ts Γ mods s H1 locs1 → Un g ts Γ [(Γ q, 0)] H H1 → W p l e R s m args below meth c H1 locs1 cells slots Q (F0 m (pc + 1) ls rest)) : W p l e R s m args below meth c H locs cells slots Q (F0 m pc ls (.int x :: .int i :: .ref q :: rest)) := by
  obtain ⟨⟨n', f⟩, hP, rfl, hA⟩ := h_at hI.1 hq ht
  obtain ⟨hin, hlt⟩ := vpin_of hi.2.1 hi.2.2 h0 h1
  rcases f with f | f | f | f | f
  · have hcell : H[q]? = some (arrV (g.2.1 k) n' fun j => .int (f j)) := hP 0 _ rfl
    have fin : ∀ H' : Heap, H'[q]? = some ((arrV (g.2.1 k) n' fun j => .int (f j)).setSlot i.toNatClampNeg (.int x)) → H'.size = H.size → (∀ y, y ≠ q → H'[y]? = H[y]?) → W p l e R s m args below meth c H' (locs ++ [⟨q, i.toNatClampNeg⟩]) cells slots Q (F0 m (pc + 1) ls rest) := by
      intro H' e1 e2 e3
      have hWR := hI.wr (j := i.toNatClampNeg) hq e2 e3 ?_ hm ?_
      · exact kk H' _ hWR.1 hWR.2
      · unfold cok
        rw [ht]
        refine ⟨(n', .inl (upd f i.toNatClampNeg x)), ?_, rfl, hA.1, fun j hj => ?_⟩
        · show H'[q]? = some (vp_cell _ _)
          rw [e1, vp_cell_i, arrV_store]
          congr 2
          funext y
          by_cases hy : y = i.toNatClampNeg
          · subst hy
            simp [updV, upd]
          · simp [updV, upd, hy]
        · by_cases hy : j = i.toNatClampNeg
          · subst hy
            simp only [upd, if_true]
            exact avle_ok hb hx
          · simp only [upd, hy, if_false]
            exact hA.2 j hj
      · unfold Un1
        rw [ht]
        intro h
        rw [md_self] at h; cases h
    have hin2 : ¬ (i < 0 ∨ (arrV (g.2.1 k) n' fun j => Value.int (f j)).slots.size ≤ i.toNatClampNeg) := by rw [arrV_size]; exact hin
    rcases hk with ⟨rfl, rfl⟩ | ⟨rfl, rfl, b0, b1⟩ | ⟨rfl, rfl, b0, b1⟩
    · exact W.iast X.1 X.2.1 hcell ((X.2.2.2.2.2.1.1.2 1 _ rfl).1 n' (fun j => .int (f j))) (fun q => by cases q) hin2 rfl rfl hdg fin
    · exact W.bast X.1 X.2.1 hcell ((X.2.2.2.2.2.1.1.2 0 _ rfl).1 n' (fun j => .int (f j))) (fun q => by cases q) hin2 rfl rfl hdg (by rw [nar_b (Int.le_trans b0 hx.2.1) (Int.le_trans hx.2.2 b1)]; exact fin)
    · exact W.zast X.1 X.2.1 hcell ((X.2.2.2.2.2.1.1.2 3 _ rfl).1 n' (fun j => .int (f j))) (fun q => by cases q) hin2 rfl rfl hdg (by rw [nar_z (Int.le_trans b0 hx.2.1) (Int.le_trans hx.2.2 b1)]; exact fin)
  · have hA : k = 2 := hA
    omega
  · exact hA.elim
  · exact hA.elim
  · have hA := hA.1
    omega
theorem h_last (X : CTX p l m meth c cc nL s args own g (AA Γ z)) (hI : HI g ts Γ mods s H locs) (hq : Γ q ≠ 0) {n : Nat} {a ia : AV} (ht : ts.1 (Γ q) = .inr (2, n, a)) {i : Int32} {x : Int64} (hi : avi g Γ ia (.int i)) (h0 : 0 ≤ ia.2.1) (h1 : ia.2.2 < (n : Int)) (hm : mdg mods (Γ q) 0 = true) (hdg : decode cc pc = .ok (.lastore, 1))
    (kk : ∀ (H1 : Heap) (locs1 : List Loc), HI g ts Γ mods s H1 locs1 → Un g ts Γ [(Γ q, 0)] H H1 → W p l e R s m args below meth c H1 locs1 cells slots Q (F0 m (pc + 1) ls rest)) : W p l e R s m args below meth c H locs cells slots Q (F0 m pc ls (.long x :: .int i :: .ref q :: rest)) := by
  obtain ⟨⟨n', f⟩, hP, rfl, hA⟩ := h_at hI.1 hq ht
  obtain ⟨hin, hlt⟩ := vpin_of hi.2.1 hi.2.2 h0 h1
  rcases f with f | f | f | f | f
  · rcases hA.1 with h | h | h <;> cases h
  · have hcell : H[q]? = some (arrV (g.2.1 2) n' fun j => .long (f j)) := hP 0 _ rfl
    refine W.last X.1 X.2.1 hcell ((X.2.2.2.2.2.1.1.2 2 _ rfl).1 n' (fun j => .long (f j))) (fun q => by cases q) (by rw [arrV_size]; exact hin) rfl rfl hdg fun H' e1 e2 e3 => ?_
    have hWR := hI.wr (j := i.toNatClampNeg) hq e2 e3 ?_ hm ?_
    · exact kk H' _ hWR.1 hWR.2
    · unfold cok
      rw [ht]
      refine ⟨(n', .inr (.inl (vp_updL f i.toNatClampNeg x))), ?_, rfl, rfl⟩
      show H'[q]? = some (vp_cell _ _)
      rw [e1, vp_cell_l, arrV_store]
      congr 2
      funext y
      by_cases hy : y = i.toNatClampNeg
      · subst hy
        simp [updV, vp_updL]
      · simp [updV, vp_updL, hy]
    · unfold Un1
      rw [ht]
      intro h
      rw [md_self] at h; cases h
  · exact hA.elim
  · exact hA.elim
  · rcases hA.1 with h | h <;> cases h
end

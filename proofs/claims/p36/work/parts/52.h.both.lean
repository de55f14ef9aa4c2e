/-! two contracts of one method at once; small lemmas for walks -/
theorem sv_ne {vs : List Value} {j k : Nat} {u v : Value} (h : k ≠ j) (hj : vs[j]? = some u) : (vs.set k v)[j]? = some u := by rw [List.getElem?_set_ne h]; exact hj
theorem sv_eq {vs : List Value} {k n : Nat} {v : Value} (h : k < n) (hl : vs.length = n) : (vs.set k v)[k]? = some v := List.getElem?_set_self (by rw [hl]; exact h)
theorem sv_len {vs : List Value} {k n : Nat} {v : Value} (hl : vs.length = n) : (vs.set k v).length = n := by rw [List.length_set]; exact hl
theorem sv_lt {vs : List Value} {k n : Nat} (h : k < n) (hl : vs.length = n) : k < vs.length := by rw [hl]; exact h
theorem Met.both {l : Launch} {y : MethodName} {ws : List Cond} {rm rm2 : Room} {P1 P2 : Array Value → State → Prop} {Q1 Q2 : Array Value → State → Outcome → State → Prop} {mc ms mc2 ms2 : Nat} {f1 f2 : Nat → Prop} (hr : rm2 = rm) (h1 : Met l y ws rm P1 Q1 mc ms f1) (h2 : Met l y ws rm2 P2 Q2 mc2 ms2 f2) : Met l y ws rm (fun a s => P1 a s ∧ P2 a s) (fun a st o t => Q1 a st o t ∧ Q2 a st o t) mc ms f1 := by
  subst hr
  intro p e a1 a2 a3 s m args below b1 b2 b3 b4
  obtain ⟨n, o, c1, c2, c3, c4, c5⟩ := h1 p e a1 a2 a3 s m args below b1 b2 b3.1 b4
  obtain ⟨n', o', d1, d2, d3, d4, d5⟩ := h2 p e a1 a2 a3 s m args below b1 b2 b3.2 b4
  have hn : n = n' := by
    rcases Nat.lt_trichotomy n n' with h | h | h
    · exact absurd (d1 n h) c3.not_within
    · exact h
    · exact absurd (c1 n' h) d3.not_within
  subst hn
  have ho := c3.outcome_unique d3
  subst ho
  exact ⟨n, o, c1, c2, c3, ⟨c4, d4⟩, c5⟩
/-- by tags, and what an exact contract says beside -/
def EX (l : Launch) (g : GG) (y : MethodName) (c : ByteArray) (n : Nat) (r : Option FieldType) (sp : SPEC) (Γ : Nat → Nat) (As : List Value) (Pre : Heap → Prop) (Post : Heap → Value → Heap → Prop) : Prop :=
  Met l y (WW y c n r) (RM sp.1 0 0) (va_Pc As (fun U => SPRE g TS0 Γ As [] U ∧ Pre U.heap)) (fun a st o t => SQ g TS0 Γ sp As a st o t ∧ ∀ v : Value, o = .returned (some v) → Post st.heap v t.heap) 0 0 (fun q => Γ q ≠ 0)
theorem EX_of {l : Launch} {g : GG} {y : MethodName} {c : ByteArray} {n : Nat} {r : Option FieldType} {sp : SPEC} {Γ : Nat → Nat} {As : List Value} {Pre : Heap → Prop} {Post : Heap → Value → Heap → Prop} (hM : SM l g TS0 y c n r sp) (hU : UQ TS0 Γ) (hV : VR g Γ sp.2.1 As) (hpf : sp.2.2.2.2.2 = [])
    (h : ∀ H : Heap, HT g TS0 Γ H → Pre H → ∃ (d : Nat) (ws : va_W) (post : Int32 → va_W → Prop), d ≤ sp.1 ∧ MetI l g y c n r d 0 0 As ws post ∧ va_P g.1 CLS ws H ∧ va_D (fun q => Γ q ≠ 0) ws ∧ ∀ (x : Int32) (u : va_W) (H1 : Heap), post x u → va_P g.1 CLS u H1 → H1.size = H.size → (∀ q : Nat, q < H.size → ¬ va_A ws H.size q → H1[q]? = H[q]?) → HT g TS0 Γ H1 → Un g TS0 Γ sp.2.2.2.2.1 H H1 → Post H (.int x) H1) : EX l g y c n r sp Γ As Pre Post := by
  intro p e a1 a2 a3 s m args below b1 b2 b3 b4
  obtain ⟨ea, ⟨hT, hK, hTB, hPF⟩, hPre⟩ := b3
  obtain ⟨d, ws, post, hd, hX, hP, hD, hQ⟩ := h s.heap hT hPre
  have hA : ∀ q, va_A ws s.heap.size q → AA Γ s.heap.size q := fun q hq => by
    rcases hq with ⟨k, e, hq⟩ | hq
    · exact Or.inl (hD.2 k _ hq)
    · exact Or.inr hq
  have h1 := hM Γ As hU hV p e a1 a2 a3 s m args below b1 b2 ⟨ea, hT, hK, hTB, by rw [hpf]; exact hPF⟩ b4
  have h2 := MetI.room hX hd s.heap.size p e a1 a2 a3 s m args below b1 b2 ⟨ea, rfl, hP, hK, hD.weaken (fun _ _ _ _ => trivial), hTB.narrow hA⟩ b4
  obtain ⟨k, o, c1, c2, c3, c4, L, c5, c6⟩ := h1
  obtain ⟨k', o', d1, d2, d3, d4, -⟩ := h2
  have hk : k = k' := by
    rcases Nat.lt_trichotomy k k' with h | h | h
    · exact absurd (d1 k h) c3.not_within
    · exact h
    · exact absurd (c1 k' h) d3.not_within
  subst hk
  have ho := c3.outcome_unique d3
  subst ho
  refine ⟨k, o, c1, c2, c3, ⟨c4, fun v hv => ?_⟩, L, c5, c6⟩
  obtain ⟨⟨x, u, ho, hp, hB⟩, hF⟩ := d4
  obtain ⟨v9, hv9, -, hT1, hz, -, hun⟩ := c4
  rw [ho] at hv
  cases hv
  exact hQ x u _ hp hB.1 hz hF.2 hT1 hun
/-- the same of a call that makes cells -/
def EG (l : Launch) (g : GG) (y : MethodName) (c : ByteArray) (n d mc ms x0 m0 : Nat) (Γ : Nat → Nat) (As : List Value) (Pre : Heap → Prop) (Post : Heap → Value → Heap → Prop) : Prop :=
  ∀ sz : Nat, Met l y (WW y c n (some .int)) (RM d mc ms) (va_Pc As (fun U => GPRE g x0 m0 Γ sz As U ∧ Pre U.heap)) (fun a st o t => GQ g x0 m0 Γ a st o t ∧ ∀ v : Value, o = .returned (some v) → Post st.heap v t.heap) mc ms (AA Γ sz)
theorem EG_of {l : Launch} {g : GG} {y : MethodName} {c : ByteArray} {n d mc ms x0 m0 : Nat} {Γ : Nat → Nat} {As : List Value} {Pre : Heap → Prop} {Post : Heap → Value → Heap → Prop} (hM : GM l g y c n d mc ms x0 m0 As) (hU : UQ TS0 Γ)
    (h : ∀ H : Heap, HT g TS0 Γ H → LF g x0 m0 Γ H → Pre H → ∃ (mc2 ms2 : Nat) (ws : va_W) (post : Int32 → va_W → Prop), Met l y (WW y c n (some .int)) (RM d mc ms) (va_Pc As (PRE g ws H.size)) (va_Qi post (BO g (va_A ws H.size)) (va_A ws H.size)) mc2 ms2 (va_A ws H.size) ∧ va_P g.1 CLS ws H ∧ va_D (fun q => Γ q ≠ 0) ws ∧ ∀ (x : Int32) (u : va_W) (H1 : Heap), post x u → va_P g.1 CLS u H1 → H.size ≤ H1.size → (∀ q : Nat, q < H.size → ¬ va_A ws H.size q → H1[q]? = H[q]?) → Post H (.int x) H1) : EG l g y c n d mc ms x0 m0 Γ As Pre Post := by
  intro sz p e a1 a2 a3 s m args below b1 b2 b3 b4
  obtain ⟨ea, ⟨hsz, hS, hL⟩, hPre⟩ := b3
  obtain ⟨mc2, ms2, ws, post, hX, hP, hD, hQ⟩ := h s.heap hS.1 hL hPre
  have hA : ∀ q, va_A ws s.heap.size q → AA Γ s.heap.size q := fun q hq => by
    rcases hq with ⟨k, e, hq⟩ | hq
    · exact Or.inl (hD.2 k _ hq)
    · exact Or.inr hq
  have h1 := hM Γ sz hU p e a1 a2 a3 s m args below b1 b2 ⟨ea, hsz, hS, hL⟩ b4
  have h2 := hX p e a1 a2 a3 s m args below b1 b2 ⟨ea, rfl, hP, hS.2.1, hD.weaken (fun _ _ _ _ => trivial), hS.2.2.1.narrow hA⟩ b4
  obtain ⟨k, o, c1, c2, c3, c4, L, c5, c6⟩ := h1
  obtain ⟨k', o', d1, d2, d3, d4, -⟩ := h2
  have hk : k = k' := by
    rcases Nat.lt_trichotomy k k' with h | h | h
    · exact absurd (d1 k h) c3.not_within
    · exact h
    · exact absurd (c1 k' h) d3.not_within
  subst hk
  have ho := c3.outcome_unique d3
  subst ho
  refine ⟨k, o, c1, c2, c3, ⟨c4, fun v hv => ?_⟩, L, c5, c6⟩
  obtain ⟨⟨x, u, ho, hp, hB⟩, hF⟩ := d4
  rw [ho] at hv
  cases hv
  exact hQ x u _ hp hB.1 hF.1 hF.2
theorem EX.blind {g : GG} {Γ : Nat → Nat} {As Bs : List Value} {Pre : Heap → Prop} : FrameBlind (va_Pc As (fun U => SPRE g TS0 Γ Bs [] U ∧ Pre U.heap)) := by
  intro a U f mk q
  obtain ⟨q0, q1, q2⟩ := q
  have h := SPRE.blind (g := g) (ts := TS0) (Γ := Γ) (As := As) (Bs := Bs) (pf := []) a U f mk ⟨q0, q1⟩
  exact ⟨q0, h.2, q2⟩
theorem EG.blind {g : GG} {x0 m0 sz : Nat} {Γ : Nat → Nat} {As Bs : List Value} {Pre : Heap → Prop} : FrameBlind (va_Pc As (fun U => GPRE g x0 m0 Γ sz Bs U ∧ Pre U.heap)) := by
  intro a U f mk q
  obtain ⟨q0, q1, q2⟩ := q
  have h := GPRE.blind (g := g) (x0 := x0) (m0 := m0) (sz := sz) (Γ := Γ) (As := As) (Bs := Bs) a U f mk ⟨q0, q1⟩
  exact ⟨q0, h.2, q2⟩
theorem AT_ext {g : GG} {k n q : Nat} {H : Heap} {f f' : Nat → Int32} (h : AT g k n q f H) (e : ∀ j : Nat, j < n → f j = f' j) : AT g k n q f' H := by
  have h0 : H[q]? = some (vp_cell (g.2.1 k) (n, .inl f)) := h
  show H[q]? = some (vp_cell (g.2.1 k) (n, .inl f'))
  rw [h0, vp_cell_i, vp_cell_i, arrV_ext e]
theorem MetI.grow {l : Launch} {g : GG} {y : MethodName} {cc : ByteArray} {n : Nat} {r : Option FieldType} {d d' mc mc' ms ms' : Nat} {As : List Value} {ws : va_W} {post : Int32 → va_W → Prop} (h : MetI l g y cc n r d mc ms As ws post) (hd : d ≤ d') (hc : mc ≤ mc') (hs : ms ≤ ms') (sz : Nat) : Met l y (WW y cc n r) (RM d' mc' ms') (va_Pc As (PRE g ws sz)) (va_Qi post (BO g (va_A ws sz)) (va_A ws sz)) mc ms (va_A ws sz) := by
  intro p e h1 h2 h3 s m args below h4 h5 h6 h7
  refine h sz p e h1 h2 h3 s m args below h4 ?_ h6 h7
  have q := (Spec.appliesLoose_iff h4).mp h5
  refine (Spec.appliesLoose_iff h4).mpr ⟨q.1, q.2.1, q.2.2.1, q.2.2.2.1, q.2.2.2.2.1, q.2.2.2.2.2.1, ?_, q.2.2.2.2.2.2.2⟩
  have hr := q.2.2.2.2.2.2.1
  unfold State.hasRoom at hr ⊢
  obtain ⟨r, r5⟩ := Bool.and_eq_true_iff.mp hr
  obtain ⟨r, r4⟩ := Bool.and_eq_true_iff.mp r
  obtain ⟨r, r3⟩ := Bool.and_eq_true_iff.mp r
  obtain ⟨r1, r2⟩ := Bool.and_eq_true_iff.mp r
  have r1 := of_decide_eq_true r1
  have r2 := of_decide_eq_true r2
  have r3 := of_decide_eq_true r3
  have r4 := of_decide_eq_true r4
  have h40 : 40 * d ≤ 40 * d' := Nat.mul_le_mul_left _ hd
  exact Bool.and_eq_true_iff.mpr ⟨Bool.and_eq_true_iff.mpr ⟨Bool.and_eq_true_iff.mpr ⟨Bool.and_eq_true_iff.mpr ⟨decide_eq_true (Nat.le_trans (Nat.add_le_add_right (Nat.add_le_add_left h40 _) _) r1), decide_eq_true ⟨Nat.le_trans (Nat.add_le_add_left hd _) r2.1, Nat.le_trans (Nat.add_le_add_left hd _) r2.2.1, Nat.le_trans (Nat.add_le_add_left h40 _) r2.2.2.1, Nat.le_trans (Nat.add_le_add_left h40 _) r2.2.2.2.1, r2.2.2.2.2⟩⟩, decide_eq_true (Nat.le_trans (Nat.add_le_add_left hc _) r3)⟩, decide_eq_true (Nat.le_trans (Nat.add_le_add_left hs _) r4)⟩, r5⟩
theorem nin_tag {Γ : Nat → Nat} {ws : va_W} {tl : List Nat} {sz q t : Nat} (h : ws.map (fun w => Γ w.1) = tl) (hq : Γ q = t) (ht : (tl.any fun u => Nat.beq u t) = false) (hlt : q < sz) : ¬ va_A ws sz q := fun hA => by
  rcases hA with ⟨k, e, hk⟩ | hA
  · have h1 : tl[k]? = some t := by rw [← h, List.getElem?_map, hk, ← hq]; rfl
    have h2 : (tl.any fun u => Nat.beq u t) = true := List.any_eq_true.mpr ⟨t, List.mem_of_getElem? h1, Nat.beq_refl t⟩
    rw [h2] at ht; cases ht
  · omega
theorem fe11 {g : GG} {q : Nat} {H : Heap} {a b c d e : Value} (h : va_at g.1 CLS (q, .inr (10, [a, b, c, .ref (q + 1), .ref (q + 2), .ref (q + 3), .ref (q + 4), .ref (q + 5), .ref (q + 6), .ref (q + 7), .ref (q + 8), .ref (q + 9), .ref (q + 10), .ref (q + 11), d, e])) H) : ∀ j : Nat, j < 11 → FE g q 10 (3 + j) H (.ref (q + 1 + j))
  | 0, _ => FE_at (k := 3) h rfl (by decide) rfl
  | 1, _ => FE_at (k := 4) h rfl (by decide) rfl
  | 2, _ => FE_at (k := 5) h rfl (by decide) rfl
  | 3, _ => FE_at (k := 6) h rfl (by decide) rfl
  | 4, _ => FE_at (k := 7) h rfl (by decide) rfl
  | 5, _ => FE_at (k := 8) h rfl (by decide) rfl
  | 6, _ => FE_at (k := 9) h rfl (by decide) rfl
  | 7, _ => FE_at (k := 10) h rfl (by decide) rfl
  | 8, _ => FE_at (k := 11) h rfl (by decide) rfl
  | 9, _ => FE_at (k := 12) h rfl (by decide) rfl
  | 10, _ => FE_at (k := 13) h rfl (by decide) rfl
  | j + 11, hj => absurd hj (by omega)

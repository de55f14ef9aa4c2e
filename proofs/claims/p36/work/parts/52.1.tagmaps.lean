/-! tag maps that grow, and the spare valley that becomes a valley -/
/-- the tags that there are -/
def okt (t : Nat) : Bool := Nat.ble t 13 || ((Nat.ble 20 t && Nat.ble t 55) || ((Nat.ble 60 t && Nat.ble t 97) || ((Nat.ble 110 t && Nat.ble t 113) || (Nat.ble 120 t && Nat.ble t 128))))
/-- what the law's frame keeps: the two objects, the spare valley's lines, the two rows of Chance -/
def LF (g : GG) (x0 m0 : Nat) (Γ : Nat → Nat) (H : Heap) : Prop := Γ x0 = 1 ∧ Γ m0 = 60 ∧ (∀ q : Nat, okt (Γ q) = true) ∧ (∀ q q' : Nat, Γ q = 13 → Γ q' = 13 → q = q') ∧ (∀ q : Nat, Γ q = 13 → Γ (q + 7) = 113 ∧ FE g q 10 9 H (.ref (q + 7))) ∧ ∃ a9 j0 j1 : Nat, Γ a9 = 12 ∧ FE g x0 11 9 H (.ref a9) ∧ FE g a9 2 0 H (.ref j0) ∧ FE g a9 2 1 H (.ref j1) ∧ j0 ≠ j1
def lwm (mods : List (Nat × Nat)) : Bool := !(md mods 13 9) && (!(md mods 1 9) && (!(md mods 12 0) && !(md mods 12 1)))
theorem lwm_ok {mods : List (Nat × Nat)} (h : lwm mods = true) : md mods 13 9 = false ∧ md mods 1 9 = false ∧ md mods 12 0 = false ∧ md mods 12 1 = false := by
  unfold lwm at h
  obtain ⟨h1, h⟩ := Bool.and_eq_true_iff.mp h
  obtain ⟨h2, h⟩ := Bool.and_eq_true_iff.mp h
  obtain ⟨h3, h4⟩ := Bool.and_eq_true_iff.mp h
  rw [Bool.not_eq_true'] at h1 h2 h3 h4
  exact ⟨h1, h2, h3, h4⟩
theorem LF.keep {g : GG} {x0 m0 : Nat} {Γ : Nat → Nat} {H H1 : Heap} {mods : List (Nat × Nat)} (h : LF g x0 m0 Γ H) (hu : Un g TS0 Γ mods H H1) (hm : lwm mods = true) : LF g x0 m0 Γ H1 := by
  obtain ⟨h1, h2, h3, h4, h5, a9, j0, j1, c1, c2, c3, c4, c5⟩ := h
  obtain ⟨m1, m2, m3, m4⟩ := lwm_ok hm
  exact ⟨h1, h2, h3, h4, fun q hq => ⟨(h5 q hq).1, hu.fld hq (by decide) rfl m1 (h5 q hq).2⟩, a9, j0, j1, c1, hu.fld h1 (by decide) rfl m2 c2, hu.fld c1 (by decide) rfl m3 c3, hu.fld c1 (by decide) rfl m4 c4, c5⟩
theorem LF.same {g : GG} {x0 m0 : Nat} {Γ : Nat → Nat} {H H1 : Heap} (h : LF g x0 m0 Γ H) (he : ∀ q : Nat, Γ q ≠ 0 → H1[q]? = H[q]?) : LF g x0 m0 Γ H1 := h.keep (mods := []) (fun q hq => Un1.same (he q hq)) rfl
theorem avi_mono {g : GG} {Γ Γ' : Nat → Nat} {a : AV} {v : Value} (h : avi g Γ a v) (hx : a.1 = 1 ∨ a.1 = 2 → ∀ x : Nat, Γ x ≠ 0 → Γ x = a.2.1.toNat → Γ' x = Γ x) : avi g Γ' a v := by
  cases v with
  | ref q =>
    rcases h with ⟨h1, h2, h3⟩ | h | h
    · have e := hx h1 q h3 h2
      exact Or.inl ⟨h1, e.trans h2, by rw [e]; exact h3⟩
    · exact Or.inr (Or.inl h)
    · exact Or.inr (Or.inr h)
  | int x => exact h
  | long x => exact h
  | null => exact h
  | float x => exact h
  | double x => exact h
  | retAddr x => exact h
/-- no bounds of a tag speak of the tags of a list -/
def avok (RT : List Nat) (a : AV) : Bool := !(Nat.beq a.1 1 || Nat.beq a.1 2) || !(RT.any fun t => Nat.beq t a.2.1.toNat)
def tagok (RT : List Nat) : (Nat × List AV) ⊕ (Nat × Nat × AV) → Bool
  | .inl (_, fs) => fs.all (avok RT)
  | .inr (_, _, a) => avok RT a
theorem avok_ok {RT : List Nat} {a : AV} {Γ Γ' : Nat → Nat} (h : avok RT a = true) (hx : ∀ x : Nat, Γ x ≠ 0 → (RT.any fun t => Nat.beq t (Γ x)) = false → Γ' x = Γ x) : a.1 = 1 ∨ a.1 = 2 → ∀ x : Nat, Γ x ≠ 0 → Γ x = a.2.1.toNat → Γ' x = Γ x := by
  intro h1 x h2 h3
  refine hx x h2 ?_
  rw [h3]
  unfold avok at h
  rcases Bool.or_eq_true_iff.mp h with h | h
  · rcases h1 with h1 | h1 <;> (rw [h1] at h; cases h)
  · rw [Bool.not_eq_true'] at h; exact h
theorem VR_mono {g : GG} {Γ Γ' : Nat → Nat} : ∀ {fs : List AV} {vs : List Value}, VR g Γ fs vs → (∀ a ∈ fs, a.1 = 1 ∨ a.1 = 2 → ∀ x : Nat, Γ x ≠ 0 → Γ x = a.2.1.toNat → Γ' x = Γ x) → VR g Γ' fs vs
  | [], [], _, _ => trivial
  | a :: r, v :: s, h, hx => ⟨avi_mono h.1 (hx a List.mem_cons_self), VR_mono h.2 fun a ha => hx a (List.mem_cons_of_mem _ ha)⟩
  | [], _ :: _, h, _ => h.elim
  | _ :: _, [], h, _ => h.elim
theorem cok_mono {g : GG} {Γ Γ' : Nat → Nat} {H : Heap} {q : Nat} {RT : List Nat} (h : cok g TS0 Γ q H) (hq : Γ' q = Γ q) (ht : tagok RT (TS0.1 (Γ q)) = true) (hx : ∀ x : Nat, Γ x ≠ 0 → (RT.any fun t => Nat.beq t (Γ x)) = false → Γ' x = Γ x) : cok g TS0 Γ' q H := by
  unfold cok at h ⊢
  rw [hq]
  cases e : TS0.1 (Γ q) with
  | inl o =>
    obtain ⟨ci, fs⟩ := o
    rw [e] at h ht
    obtain ⟨vs, h1, h2⟩ := h
    exact ⟨vs, h1, VR_mono h2 fun a ha => avok_ok (List.all_eq_true.mp ht a ha) hx⟩
  | inr o =>
    obtain ⟨k, n, a⟩ := o
    rw [e] at h ht
    obtain ⟨x, h1, h2, h3⟩ := h
    refine ⟨x, h1, h2, ?_⟩
    obtain ⟨n', f⟩ := x
    rcases f with f | f | f | f | f
    · exact ⟨h3.1, fun j hj => avi_mono (h3.2 j hj) (avok_ok ht hx)⟩
    · exact h3
    · exact h3
    · exact h3
    · exact ⟨h3.1, fun j hj => avi_mono (h3.2 j hj) (avok_ok ht hx)⟩
theorem tagok_nil (o : (Nat × List AV) ⊕ (Nat × Nat × AV)) : tagok [] o = true := by
  have h : ∀ a : AV, avok [] a = true := fun a => by unfold avok; cases (Nat.beq a.1 1 || Nat.beq a.1 2) <;> rfl
  rcases o with ⟨ci, fs⟩ | ⟨k, n, a⟩
  · exact List.all_eq_true.mpr fun a _ => h a
  · exact h a
/-- what the special tags ask of a cell -/
def spc (g : GG) (Γ : Nat → Nat) (q : Nat) (H : Heap) : Prop := Γ q ≠ 7 ∧ Γ q ≠ 3 ∧ (Γ q = 25 ∨ Γ q = 113 → ∃ f, AT g 1 72 q f H ∧ ∀ j : Nat, j < 72 → (lsp (j % 6)).1 ≤ (f j).toInt ∧ (f j).toInt ≤ (lsp (j % 6)).2) ∧ (Γ q = 4 → IV2 g Γ q H)
theorem HT_grow {g : GG} {Γ Γ' : Nat → Nat} {H H1 : Heap} (hT : HT g TS0 Γ H) (ho : ∀ x : Nat, Γ x ≠ 0 → H1[x]? = H[x]?) (hx : ∀ x : Nat, Γ x ≠ 0 → Γ' x = Γ x) (hn : ∀ x : Nat, Γ x = 0 → Γ' x ≠ 0 → cok g TS0 Γ' x H1 ∧ spc g Γ' x H1) : HT g TS0 Γ' H1 := by
  have hT1 := HT_ext hT ho
  obtain ⟨⟨i1, i4⟩, i2, i3⟩ := hT1.2.1 rfl
  refine ⟨fun q hq => ?_, fun _ => ⟨⟨fun q hq => ?_, fun q hq => ?_⟩, fun q hq => ?_, fun q hq => ?_⟩, fun e => by cases congrArg (fun t : TS => t.2.2) e⟩
  · by_cases h0 : Γ q = 0
    · exact (hn q h0 hq).1
    · exact cok_mono (RT := []) (hT1.1 q h0) (hx q h0) (tagok_nil _) fun x h _ => hx x h
  · by_cases h0 : Γ q = 0
    · exact (hn q h0 (by rcases hq with e | e <;> rw [e] <;> decide)).2.2.2.1 hq
    · rw [hx q h0] at hq; exact i1 q hq
  · by_cases h0 : Γ q = 0
    · exact absurd hq (hn q h0 (by rw [hq]; decide)).2.2.1
    · rw [hx q h0] at hq
      obtain ⟨b1, b2⟩ := i4 q hq
      exact ⟨(hx _ (by rw [b1]; decide)).trans b1, b2⟩
  · by_cases h0 : Γ q = 0
    · exact (hn q h0 (by rw [hq]; decide)).2.2.2.2 hq
    · rw [hx q h0] at hq
      obtain ⟨b1, b2, b3⟩ := i2 q hq
      exact ⟨(hx _ (by rw [b1]; decide)).trans b1, (hx _ (by rw [b2]; decide)).trans b2, b3⟩
  · by_cases h0 : Γ q = 0
    · exact absurd hq (hn q h0 (by rw [hq]; decide)).2.1
    · rw [hx q h0] at hq
      obtain ⟨b1, b2, b3⟩ := i3 q hq
      exact ⟨(hx _ (by rw [b1]; decide)).trans b1, (hx _ (by rw [b2]; decide)).trans b2, b3⟩
/-- new cells z, z + 1, .. -/
def gw (Γ : Nat → Nat) (z : Nat) (L : List Nat) (x : Nat) : Nat := if z ≤ x ∧ x < z + L.length then L.getD (x - z) 0 else Γ x
theorem gw_new {Γ : Nat → Nat} {z i : Nat} {L : List Nat} (h : i < L.length) : gw Γ z L (z + i) = L.getD i 0 := by
  unfold gw
  rw [if_pos ⟨by omega, by omega⟩, show z + i - z = i by omega]
theorem gw_old {Γ : Nat → Nat} {z x : Nat} {L : List Nat} (h : x < z) : gw Γ z L x = Γ x := by
  unfold gw
  rw [if_neg (by omega)]
theorem gw_cases {Γ : Nat → Nat} {z x : Nat} {L : List Nat} (h0 : ∀ x : Nat, Γ x ≠ 0 → x < z) (h : gw Γ z L x ≠ 0) : (Γ x ≠ 0 ∧ gw Γ z L x = Γ x ∧ x < z) ∨ ∃ i : Nat, i < L.length ∧ x = z + i ∧ gw Γ z L x = L.getD i 0 := by
  by_cases hx : z ≤ x ∧ x < z + L.length
  · refine Or.inr ⟨x - z, by omega, by omega, ?_⟩
    unfold gw
    rw [if_pos hx]
  · have e : gw Γ z L x = Γ x := by unfold gw; rw [if_neg hx]
    rw [e] at h
    exact Or.inl ⟨h, e, h0 x h⟩
theorem HT.lt {g : GG} {ts : TS} {Γ : Nat → Nat} {H : Heap} (h : HT g ts Γ H) {x : Nat} (hx : Γ x ≠ 0) : x < H.size := (h.1 x hx).lt
theorem UQ_gw {Γ : Nat → Nat} {z : Nat} {L : List Nat} (hU : UQ TS0 Γ) (h0 : ∀ x : Nat, Γ x ≠ 0 → x < z) (hL : (L.all fun t => !(uqt TS0 t)) = true) : UQ TS0 (gw Γ z L) := by
  have key : ∀ x : Nat, uqt TS0 (gw Γ z L x) = true → Γ x ≠ 0 ∧ gw Γ z L x = Γ x := by
    intro x h
    by_cases hz : gw Γ z L x = 0
    · rw [hz] at h; exact absurd h (by decide)
    · rcases gw_cases h0 hz with h1 | ⟨i, h1, -, h2⟩
      · exact ⟨h1.1, h1.2.1⟩
      · rw [h2, List.getD_eq_getElem?_getD, List.getElem?_eq_getElem h1] at h
        have := List.all_eq_true.mp hL _ (List.getElem_mem h1)
        rw [show uqt TS0 L[i] = true from h] at this
        cases this
  intro q q' e hu
  obtain ⟨h1, h2⟩ := key q hu
  obtain ⟨h3, h4⟩ := key q' (e ▸ hu)
  exact hU q q' (by rw [← h2, ← h4]; exact e) (h2 ▸ hu)
theorem LF_gw {g : GG} {x0 m0 z : Nat} {Γ : Nat → Nat} {L : List Nat} {H H1 : Heap} (h : LF g x0 m0 Γ H) (he : ∀ q : Nat, Γ q ≠ 0 → H1[q]? = H[q]?) (h0 : ∀ x : Nat, Γ x ≠ 0 → x < z) (hL : (L.all fun t => okt t && !(Nat.beq t 13)) = true) : LF g x0 m0 (gw Γ z L) H1 := by
  obtain ⟨h1, h2, h3, h4, h5, a9, j0, j1, c1, c2⟩ := h.same he
  have old : ∀ x : Nat, Γ x ≠ 0 → gw Γ z L x = Γ x := fun x hx => gw_old (h0 x hx)
  have new : ∀ i : Nat, i < L.length → okt (L.getD i 0) = true ∧ L.getD i 0 ≠ 13 := fun i hi => by
    rw [List.getD_eq_getElem?_getD, List.getElem?_eq_getElem hi]
    obtain ⟨q1, q2⟩ := Bool.and_eq_true_iff.mp (List.all_eq_true.mp hL _ (List.getElem_mem hi))
    refine ⟨q1, fun e => ?_⟩
    have e : L[i] = 13 := e
    rw [e] at q2; cases q2
  have k13 : ∀ x : Nat, gw Γ z L x = 13 → Γ x = 13 := fun x hx => by
    rcases gw_cases h0 (by rw [hx]; decide) with q | ⟨i, q1, -, q2⟩
    · rw [← q.2.1]; exact hx
    · exact absurd (q2.symm.trans hx) (new i q1).2
  refine ⟨(old _ (by rw [h1]; decide)).trans h1, (old _ (by rw [h2]; decide)).trans h2, fun q => ?_, fun q q' e e' => h4 q q' (k13 q e) (k13 q' e'), fun q hq => ?_, a9, j0, j1, (old _ (by rw [c1]; decide)).trans c1, c2⟩
  · by_cases hz : gw Γ z L q = 0
    · rw [hz]; rfl
    · rcases gw_cases h0 hz with q1 | ⟨i, q1, -, q2⟩
      · rw [q1.2.1]; exact h3 q
      · rw [q2]; exact (new i q1).1
  · obtain ⟨b1, b2⟩ := h5 q (k13 q hq)
    exact ⟨(old _ (by rw [b1]; decide)).trans b1, b2⟩
/-- the spare valley becomes a valley; the object itself stands aside -/
def rt1 : Nat → Nat
  | 13 => 3
  | 110 => 23
  | 111 => 23
  | 112 => 23
  | 113 => 25
  | t => t
def rt (Γ : Nat → Nat) (x0 x : Nat) : Nat := if x = x0 then 0 else rt1 (Γ x)
def RT0 : List Nat := [1, 13, 110, 111, 112, 113]
theorem rt1_id {t : Nat} (h : (RT0.any fun u => Nat.beq u t) = false) : rt1 t = t := by
  unfold rt1
  split <;> first | rfl | (exact absurd h (by decide))
theorem okt_le {t : Nat} (h : okt t = true) : t ≤ 128 := by
  refine Nat.not_lt.mp fun q => ?_
  unfold okt at h
  simp only [Bool.or_eq_true, Bool.and_eq_true, Nat.ble_eq] at h
  omega
theorem rt1_a : ∀ t : Nat, t ≤ 128 → (rt1 t ≠ 0 → t ≠ 0) ∧ (t ≠ 0 → rt1 t ≠ 0) ∧ (uqt TS0 (rt1 t) = true → rt1 t = t) ∧ rt1 t ≠ 13 ∧ rt1 t ≠ 113 := by decide +kernel
theorem rt1_b : ∀ t : Nat, t ≤ 128 → (rt1 t = 25 → t = 25 ∨ t = 113) ∧ (rt1 t = 3 → t = 3 ∨ t = 13) ∧ (rt1 t = 4 → t = 4) ∧ (rt1 t = 7 → t = 7) := by decide +kernel
theorem rt1_c : ∀ t : Nat, t ≤ 128 → okt t = true → okt (rt1 t) = true := by decide +kernel
theorem tag_rt : ∀ t : Nat, t ≤ 128 → okt t = true → t ≠ 0 → t ≠ 1 → t ≠ 13 → tagok RT0 (TS0.1 t) = true := by decide +kernel
theorem VR_at {g : GG} {Γ : Nat → Nat} : ∀ {fs : List AV} {vs : List Value}, vs.length = fs.length → (∀ (k : Nat) (a : AV) (v : Value), fs[k]? = some a → vs[k]? = some v → avi g Γ a v) → VR g Γ fs vs
  | [], [], _, _ => trivial
  | a :: r, v :: s, h, hx => ⟨hx 0 a v rfl rfl, VR_at (Nat.succ.inj h) fun k a v h1 h2 => hx (k + 1) a v h1 h2⟩
  | [], _ :: _, h, _ => by cases h
  | _ :: _, [], h, _ => by cases h

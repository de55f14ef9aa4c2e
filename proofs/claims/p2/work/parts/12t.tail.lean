/-! worlds whose length is not known: the cells in any order; a call on the first cells of a world -/
theorem va_nd_iff (l : List Nat) : va_nd l = true ↔ l.Nodup := by
  induction l with
  | nil => simp [va_nd]
  | cons a l ih => simp [va_nd, ih]
theorem ap_C (a b : va_W) : (List.range a.length).map (fun i => (a ++ b)[i]?) = a.map some := by
  refine List.ext_getElem (by simp) (fun i h1 h2 => ?_)
  have h : i < a.length := by simpa using h2
  simp only [List.getElem_map, List.getElem_range]
  rw [List.getElem?_append_left h, List.getElem?_eq_getElem h]
theorem ap_R (a b : va_W) : (List.range' a.length b.length).map (fun i => (a ++ b)[i]?) = b.map some := by
  refine List.ext_getElem (by simp) (fun i h1 h2 => ?_)
  have h : i < b.length := by simpa using h2
  simp only [List.getElem_map, List.getElem_range']
  rw [List.getElem?_append_right (by omega), show a.length + 1 * i - a.length = i by omega, List.getElem?_eq_getElem h]
theorem ap_ndC (n : Nat) : va_nd (List.range n) = true := (va_nd_iff _).mpr List.nodup_range
theorem ap_ndR (n k : Nat) : va_nd (List.range' n k) = true := (va_nd_iff _).mpr List.nodup_range'
theorem ap_dis (n k : Nat) : (List.range' n k).all (fun i => decide (i ∉ List.range n)) = true := by
  refine List.all_eq_true.mpr (fun i hi => decide_eq_true (fun h => ?_))
  have h1 := List.mem_range'_1.mp hi
  have h2 := List.mem_range.mp h
  omega
theorem nd_fst {ws : va_W} : (∀ (i j : Nat) (p q : Nat × va_E), ws[i]? = some p → ws[j]? = some q → p.1 = q.1 → i = j) ↔ (ws.map (fun q => q.1)).Nodup := by
  unfold List.Nodup
  rw [List.pairwise_map, List.pairwise_iff_getElem]
  constructor
  · intro h i j hi hj hij e
    have := h i j _ _ (List.getElem?_eq_getElem hi) (List.getElem?_eq_getElem hj) e
    omega
  · intro h i j p q hp hq e
    obtain ⟨hi, rfl⟩ := List.getElem?_eq_some_iff.mp hp
    obtain ⟨hj, rfl⟩ := List.getElem?_eq_some_iff.mp hq
    rcases Nat.lt_trichotomy i j with l | l | l
    · exact absurd e (h i j hi hj l)
    · exact l
    · exact absurd e.symm (h j i hj hi l)
theorem perm_fst {ws ws' : va_W} (hp : ws.Perm ws') (h : (ws.map (fun q => q.1)).Nodup) : (ws'.map (fun q => q.1)).Nodup := (hp.map _).nodup_iff.mp h
theorem va_P_mem {D : va_G} {cl : List vw_C} {ws : va_W} {H : Heap} : va_P D cl ws H ↔ ∀ q ∈ ws, va_at D cl q H :=
  ⟨fun h q hq => by obtain ⟨k, hk⟩ := List.getElem?_of_mem hq; exact h k q hk, fun h k q hk => h q (List.mem_of_getElem? hk)⟩
theorem WD.perm {g : GG} {A : Nat → Prop} {s : State} {H : Heap} {locs : List Loc} {ws ws' : va_W} (h : WD g A s H locs ws) (hp : ws.Perm ws') : WD g A s H locs ws' := by
  refine ⟨va_P_mem.mpr (fun q hq => va_P_mem.mp h.1 q (hp.mem_iff.mpr hq)), ⟨nd_fst.mpr (perm_fst hp (nd_fst.mp h.2.1.1)), fun k q hk => ?_⟩, h.2.2⟩
  obtain ⟨j, hj⟩ := List.getElem?_of_mem (hp.mem_iff.mpr (List.mem_of_getElem? hk))
  exact h.2.1.2 j q hj
/-- the world's first part alone -/
theorem WD.head {g : GG} {A : Nat → Prop} {s : State} {H : Heap} {locs : List Loc} {a b : va_W} (h : WD g A s H locs (a ++ b)) : WD g A s H locs a := h.pick (List.range a.length) (ap_ndC _) (ap_C a b)
theorem WD.tail {g : GG} {A : Nat → Prop} {s : State} {H : Heap} {locs : List Loc} {a b : va_W} (h : WD g A s H locs (a ++ b)) : WD g A s H locs b := h.pick (List.range' a.length b.length) (ap_ndR _ _) (ap_R a b)

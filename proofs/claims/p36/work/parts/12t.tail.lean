/-! worlds whose length is not known: the cells in any order; a call on the first cells of a world -/
theorem va_nd_iff (l : List Nat) : va_nd l = true ↔ l.Nodup := by
  induction l with
  | nil => simp [va_nd]
  | cons a l ih => simp [va_nd, ih]
theorem ap_C (a b : va_W) : (List.range a.length).map (fun i => (a ++ b)[i]?) = a.map some := by
  refine List.ext_getElem (by simp) (fun i h1 h2 => ?_)
  have h : i < a.length := by simpa using h2
  simp only [List.getElem_map, List.getElem_range]
  rw [List.getElem?_append_left h, List.getElem?_eq_getElem h]
theorem ap_R (a b : va_W) : (List.range' a.length b.length).map (fun i => (a ++ b)[i]?) = b.map some := by
  refine List.ext_getElem (by simp) (fun i h1 h2 => ?_)
  have h : i < b.length := by simpa using h2
  simp only [List.getElem_map, List.getElem_range']
  rw [List.getElem?_append_right (by omega), show a.length + 1 * i - a.length = i by omega, List.getElem?_eq_getElem h]
theorem ap_ndC (n : Nat) : va_nd (List.range n) = true := (va_nd_iff _).mpr List.nodup_range
theorem ap_ndR (n k : Nat) : va_nd (List.range' n k) = true := (va_nd_iff _).mpr List.nodup_range'
/-- the world's first part alone -/
theorem WD.head {g : GG} {A : Nat → Prop} {s : State} {H : Heap} {locs : List Loc} {a b : va_W} (h : WD g A s H locs (a ++ b)) : WD g A s H locs a := h.pick (List.range a.length) (ap_ndC _) (ap_C a b)
theorem WD.tail {g : GG} {A : Nat → Prop} {s : State} {H : Heap} {locs : List Loc} {a b : va_W} (h : WD g A s H locs (a ++ b)) : WD g A s H locs b := h.pick (List.range' a.length b.length) (ap_ndR _ _) (ap_R a b)

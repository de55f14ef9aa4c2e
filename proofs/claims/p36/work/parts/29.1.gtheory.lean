/-! everything to all: that it can be done along lines that hold together, in eight calls by five -/
theorem MetI.room {l : Launch} {g : GG} {y : MethodName} {cc : ByteArray} {n : Nat} {r : Option FieldType} {d d' mc ms : Nat} {As : List Value} {ws : va_W} {post : Int32 → va_W → Prop} (h : MetI l g y cc n r d mc ms As ws post) (hd : d ≤ d') : MetI l g y cc n r d' mc ms As ws post := by
  intro sz p e h1 h2 h3 s m args below h4 h5 h6 h7
  refine h sz p e h1 h2 h3 s m args below h4 ?_ h6 h7
  have q := (Spec.appliesLoose_iff h4).mp h5
  refine (Spec.appliesLoose_iff h4).mpr ⟨q.1, q.2.1, q.2.2.1, q.2.2.2.1, q.2.2.2.2.1, q.2.2.2.2.2.1, ?_, q.2.2.2.2.2.2.2⟩
  have hr := q.2.2.2.2.2.2.1
  unfold State.hasRoom at hr ⊢
  obtain ⟨r, r5⟩ := Bool.and_eq_true_iff.mp hr
  obtain ⟨r, r4⟩ := Bool.and_eq_true_iff.mp r
  obtain ⟨r, r3⟩ := Bool.and_eq_true_iff.mp r
  obtain ⟨r1, r2⟩ := Bool.and_eq_true_iff.mp r
  have r1 := of_decide_eq_true r1
  have r2 := of_decide_eq_true r2
  have h40 : 40 * d ≤ 40 * d' := Nat.mul_le_mul_left _ hd
  exact Bool.and_eq_true_iff.mpr ⟨Bool.and_eq_true_iff.mpr ⟨Bool.and_eq_true_iff.mpr ⟨Bool.and_eq_true_iff.mpr ⟨decide_eq_true (Nat.le_trans (Nat.add_le_add_right (Nat.add_le_add_left h40 _) _) r1), decide_eq_true ⟨Nat.le_trans (Nat.add_le_add_left hd _) r2.1, Nat.le_trans (Nat.add_le_add_left hd _) r2.2.1, Nat.le_trans (Nat.add_le_add_left h40 _) r2.2.2.1, Nat.le_trans (Nat.add_le_add_left h40 _) r2.2.2.2.1, r2.2.2.2.2⟩⟩, r3⟩, r4⟩, r5⟩
def gaft (th : Nat → Int32) (a b : Nat) : Nat → Int32 := fun o => if o = a ∨ o = b then th a ||| th b else th o
def gfold : (Nat → Int32) → List (Nat × Nat) → Nat → Int32
  | th, [] => th
  | th, q :: r => gfold (gaft th q.1 q.2) r
def gall (p : Nat) (ev : Int32) (th : Nat → Int32) : Prop := ∀ o : Nat, o < p → th o = ev
def gus (th : Nat → Int32) (a b : Nat) : Prop := ¬ (th a = (th a ||| th b) ∧ th b = (th a ||| th b))
theorem gaft_cong {p a b : Nat} {th th' : Nat → Int32} (ha : a < p) (hb : b < p) (h : ∀ o : Nat, o < p → th o = th' o) : ∀ o : Nat, o < p → gaft th a b o = gaft th' a b o := fun o ho => by
  unfold gaft
  rw [h a ha, h b hb, h o ho]
theorem gfold_cong {p : Nat} : ∀ {ls : List (Nat × Nat)} {th th' : Nat → Int32}, (∀ q ∈ ls, q.1 < p ∧ q.2 < p) → (∀ o : Nat, o < p → th o = th' o) → ∀ o : Nat, o < p → gfold th ls o = gfold th' ls o
  | [], _, _, _, h => h
  | q :: r, _, _, hv, h => gfold_cong (ls := r) (fun x hx => hv x (List.mem_cons_of_mem _ hx)) (gaft_cong (hv q List.mem_cons_self).1 (hv q List.mem_cons_self).2 h)
theorem gaft_no {th : Nat → Int32} {a b : Nat} (h : ¬ gus th a b) : gaft th a b = th := funext fun o => by
  have h := Classical.not_not.mp h
  unfold gaft
  by_cases e : o = a ∨ o = b
  · rw [if_pos e]
    rcases e with rfl | rfl
    · exact h.1.symm
    · exact h.2.symm
  · rw [if_neg e]
def gok (V : Nat × Nat → Prop) (p : Nat) (ev : Int32) (k : Nat) (th : Nat → Int32) : Prop := ∃ ls : List (Nat × Nat), ls.length ≤ k ∧ (∀ q ∈ ls, V q ∧ q.1 < p ∧ q.2 < p) ∧ gall p ev (gfold th ls)
theorem gok_cong {V : Nat × Nat → Prop} {p : Nat} {ev : Int32} {k : Nat} {th th' : Nat → Int32} (h : gok V p ev k th) (e : ∀ o : Nat, o < p → th o = th' o) : gok V p ev k th' := by
  obtain ⟨ls, h1, h2, h3⟩ := h
  exact ⟨ls, h1, h2, fun o ho => by rw [← gfold_cong (fun q hq => (h2 q hq).2) e o ho]; exact h3 o ho⟩
theorem gok_0 {V : Nat × Nat → Prop} {p : Nat} {ev : Int32} {th : Nat → Int32} (h : gok V p ev 0 th) : gall p ev th := by
  obtain ⟨ls, h1, h2, h3⟩ := h
  cases ls with
  | nil => exact h3
  | cons q r => exact absurd h1 (by rw [List.length_cons]; omega)
theorem gok_first {V : Nat × Nat → Prop} {p : Nat} {ev : Int32} : ∀ {ls : List (Nat × Nat)} {k : Nat} {th : Nat → Int32}, ls.length ≤ k + 1 → (∀ q ∈ ls, V q ∧ q.1 < p ∧ q.2 < p) → gall p ev (gfold th ls) → ¬ gall p ev th → ∃ q : Nat × Nat, V q ∧ q.1 < p ∧ q.2 < p ∧ gus th q.1 q.2 ∧ gok V p ev k (gaft th q.1 q.2)
  | [], _, _, _, _, h3, h4 => absurd h3 h4
  | q :: r, k, th, h1, h2, h3, h4 => by
    by_cases hu : gus th q.1 q.2
    · have hq := h2 q List.mem_cons_self
      exact ⟨q, hq.1, hq.2.1, hq.2.2, hu, r, by rw [List.length_cons] at h1; omega, fun x hx => h2 x (List.mem_cons_of_mem _ hx), h3⟩
    · have e := gaft_no hu
      rw [gfold, e] at h3
      exact gok_first (ls := r) (k := k) (by rw [List.length_cons] at h1; omega) (fun x hx => h2 x (List.mem_cons_of_mem _ hx)) h3 h4
/-! the graphs of five at most, one by one -/
def prs : List (Nat × Nat) := [(0, 1), (0, 2), (1, 2), (0, 3), (1, 3), (2, 3), (0, 4), (1, 4), (2, 4), (3, 4)]
def epg : List (Nat × Nat) → Nat → List (Nat × Nat)
  | [], _ => []
  | q :: r, e => bif Nat.beq (e % 2) 1 then q :: epg r (e / 2) else epg r (e / 2)
def tb (m i : Nat) : Bool := Nat.beq (m / 2 ^ i % 2) 1
def grow (E : List (Nat × Nat)) : Nat → Nat → List (Nat × Nat) → Nat × List (Nat × Nat)
  | 0, m, acc => (m, acc)
  | k + 1, m, acc => match E.find? (fun q => xor (tb m q.1) (tb m q.2)) with
    | some q => grow E k (m ||| 2 ^ q.1 ||| 2 ^ q.2) (q :: acc)
    | none => (m, acc)
def gap (l : List Nat) (q : Nat × Nat) : List Nat := (l.set q.1 (l.getD q.1 0 ||| l.getD q.2 0)).set q.2 (l.getD q.1 0 ||| l.getD q.2 0)
def gat (p : Nat) (l : List Nat) : Bool := (List.range p).all fun o => Nat.beq (l.getD o 0) (2 ^ p - 1)
def gpr (a b : Nat × Nat) : Bool := Nat.beq a.1 b.1 && Nat.beq a.2 b.2
def gchk1 (p : Nat) (E : List (Nat × Nat)) (g : Nat × List (Nat × Nat)) : Bool :=
  tb g.1 0 && ((E.all fun q => !(xor (tb g.1 q.1) (tb g.1 q.2))) && ((E.all fun q => Nat.blt q.1 p && Nat.blt q.2 p) && ((g.2.all fun q => E.any (gpr q)) && (Nat.ble g.2.length 4 && (!((List.range p).all fun o => tb g.1 o) || gat p ((g.2 ++ g.2.reverse).foldl gap [1, 2, 4, 8, 16]))))))
def gchk (p m e : Nat) : Bool := gchk1 p (epg (prs.take m) e) (grow (epg (prs.take m) e) 4 1 [])
theorem gchk1_ok : (List.range 1).all (gchk 1 0) = true := by decide +kernel
theorem gchk2_ok : (List.range 2).all (gchk 2 1) = true := by decide +kernel
theorem gchk3_ok : (List.range 8).all (gchk 3 3) = true := by decide +kernel
theorem gchk4_ok : (List.range 64).all (gchk 4 6) = true := by decide +kernel
theorem gchk5_ok : (List.range 1024).all (gchk 5 10) = true := by decide +kernel
theorem epg_ex (P : Nat × Nat → Prop) : ∀ l : List (Nat × Nat), ∃ e : Nat, e < 2 ^ l.length ∧ (∀ q ∈ epg l e, P q) ∧ ∀ q ∈ l, P q → q ∈ epg l e
  | [] => ⟨0, by decide, fun q hq => (List.not_mem_nil hq).elim, fun q hq => (List.not_mem_nil hq).elim⟩
  | a :: r => by
    obtain ⟨e, h1, h2, h3⟩ := epg_ex P r
    by_cases hP : P a
    · refine ⟨2 * e + 1, by rw [List.length_cons, Nat.pow_succ]; omega, ?_, ?_⟩
      · rw [epg, show (2 * e + 1) % 2 = 1 by omega, show (2 * e + 1) / 2 = e by omega]
        intro q hq
        rcases List.mem_cons.mp hq with rfl | hq
        · exact hP
        · exact h2 q hq
      · rw [epg, show (2 * e + 1) % 2 = 1 by omega, show (2 * e + 1) / 2 = e by omega]
        intro q hq hp
        rcases List.mem_cons.mp hq with rfl | hq
        · exact List.mem_cons_self
        · exact List.mem_cons_of_mem _ (h3 q hq hp)
    · refine ⟨2 * e, by rw [List.length_cons, Nat.pow_succ]; omega, ?_, ?_⟩
      · rw [epg, show (2 * e) % 2 = 0 by omega, show (2 * e) / 2 = e by omega]
        exact h2
      · rw [epg, show (2 * e) % 2 = 0 by omega, show (2 * e) / 2 = e by omega]
        intro q hq hp
        rcases List.mem_cons.mp hq with rfl | hq
        · exact absurd hp hP
        · exact h3 q hq hp
theorem gap_len (l : List Nat) (q : Nat × Nat) : (gap l q).length = l.length := by unfold gap; rw [List.length_set, List.length_set]
theorem gap_get {l : List Nat} {q : Nat × Nat} (h1 : q.1 < l.length) (h2 : q.2 < l.length) (o : Nat) : (gap l q).getD o 0 = if o = q.1 ∨ o = q.2 then l.getD q.1 0 ||| l.getD q.2 0 else l.getD o 0 := by
  unfold gap
  rw [List.getD_eq_getElem?_getD, List.getD_eq_getElem?_getD, List.getD_eq_getElem?_getD, List.getD_eq_getElem?_getD]
  by_cases e2 : o = q.2
  · rw [if_pos (Or.inr e2), e2, List.getElem?_set_self (by rw [List.length_set]; exact h2)]; rfl
  · rw [List.getElem?_set_ne (Ne.symm e2)]
    by_cases e1 : o = q.1
    · rw [if_pos (Or.inl e1), e1, List.getElem?_set_self h1]; rfl
    · rw [List.getElem?_set_ne (Ne.symm e1), if_neg (fun h => h.elim e1 e2)]
theorem gfold_sim : ∀ {ls : List (Nat × Nat)} {l : List Nat} {th : Nat → Int32}, (∀ q ∈ ls, q.1 < l.length ∧ q.2 < l.length) → (∀ o : Nat, th o = nI (l.getD o 0)) → ∀ o : Nat, gfold th ls o = nI ((ls.foldl gap l).getD o 0)
  | [], _, _, _, h => h
  | q :: r, l, th, hv, h => by
    have hq := hv q List.mem_cons_self
    refine gfold_sim (ls := r) (l := gap l q) (fun x hx => by rw [gap_len]; exact hv x (List.mem_cons_of_mem _ hx)) (fun o => ?_)
    rw [gap_get hq.1 hq.2]
    unfold gaft
    split
    · rw [h, h, fa_or]
    · exact h o
theorem gmain1 {p : Nat} {E : List (Nat × Nat)} {g : Nat × List (Nat × Nat)} {P : Nat × Nat → Prop} (hp : p ≤ 5) (hc : gchk1 p E g = true) (hE : ∀ q ∈ E, P q) (conn : ∀ S : Nat → Prop, S 0 → (∀ q ∈ E, S q.1 ↔ S q.2) → ∀ o : Nat, o < p → S o) : ∃ ls : List (Nat × Nat), ls.length ≤ 8 ∧ (∀ q ∈ ls, P q ∧ q.1 < p ∧ q.2 < p) ∧ gall p (nI (2 ^ p - 1)) (gfold (fun o => nI ([1, 2, 4, 8, 16].getD o 0)) ls) := by
  unfold gchk1 at hc
  simp only [Bool.and_eq_true] at hc
  obtain ⟨c1, c2, c3, c4, c5, c6⟩ := hc
  have c2 := List.all_eq_true.mp c2
  have c3 := List.all_eq_true.mp c3
  have c4 := List.all_eq_true.mp c4
  have c5 := Nat.le_of_ble_eq_true c5
  have hin : ∀ q ∈ g.2, P q ∧ q.1 < p ∧ q.2 < p := fun q hq => by
    obtain ⟨x, hx, he⟩ := List.any_eq_true.mp (c4 q hq)
    obtain ⟨e1, e2⟩ := Bool.and_eq_true_iff.mp he
    have e1 := Nat.eq_of_beq_eq_true e1
    have e2 := Nat.eq_of_beq_eq_true e2
    have e : q = x := Prod.ext e1 e2
    subst e
    have h3 := c3 q hx
    simp only [Bool.and_eq_true] at h3
    exact ⟨hE q hx, Nat.le_of_ble_eq_true h3.1, Nat.le_of_ble_eq_true h3.2⟩
  have hall : ((List.range p).all fun o => tb g.1 o) = true := List.all_eq_true.mpr fun o ho => by
    refine conn (fun o => tb g.1 o = true) c1 (fun q hq => ?_) o (List.mem_range.mp ho)
    have := c2 q hq
    cases h1 : tb g.1 q.1 <;> cases h2 : tb g.1 q.2 <;> rw [h1, h2] at this <;> first | exact Iff.rfl | cases this
  rw [hall, Bool.not_true, Bool.false_or] at c6
  have c6 := List.all_eq_true.mp c6
  have hv : ∀ q ∈ g.2 ++ g.2.reverse, P q ∧ q.1 < p ∧ q.2 < p := fun q hq => by
    rcases List.mem_append.mp hq with h | h
    · exact hin q h
    · exact hin q (List.mem_reverse.mp h)
  refine ⟨g.2 ++ g.2.reverse, by rw [List.length_append, List.length_reverse]; omega, hv, fun o ho => ?_⟩
  rw [gfold_sim (l := [1, 2, 4, 8, 16]) (fun q hq => ⟨Nat.lt_of_lt_of_le (hv q hq).2.1 hp, Nat.lt_of_lt_of_le (hv q hq).2.2 hp⟩) (fun _ => rfl)]
  rw [Nat.eq_of_beq_eq_true (c6 o (List.mem_range.mpr ho))]
theorem gmain {p : Nat} {P : Nat × Nat → Prop} (h1 : 1 ≤ p) (hp : p ≤ 5) (conn : ∀ S : Nat → Prop, S 0 → (∀ a b : Nat, a < b → b < p → P (a, b) → (S a ↔ S b)) → ∀ o : Nat, o < p → S o) : ∃ ls : List (Nat × Nat), ls.length ≤ 8 ∧ (∀ q ∈ ls, P q ∧ q.1 < p ∧ q.2 < p) ∧ gall p (nI (2 ^ p - 1)) (gfold (fun o => nI ([1, 2, 4, 8, 16].getD o 0)) ls) := by
  have key : ∀ m : Nat, (∀ a b : Nat, a < b → b < p → (a, b) ∈ prs.take m) → (List.range (2 ^ (prs.take m).length)).all (gchk p m) = true → ∃ ls : List (Nat × Nat), ls.length ≤ 8 ∧ (∀ q ∈ ls, P q ∧ q.1 < p ∧ q.2 < p) ∧ gall p (nI (2 ^ p - 1)) (gfold (fun o => nI ([1, 2, 4, 8, 16].getD o 0)) ls) := fun m hm hch => by
    obtain ⟨e, e1, e2, e3⟩ := epg_ex P (prs.take m)
    refine gmain1 hp (List.all_eq_true.mp hch e (List.mem_range.mpr e1)) e2 (fun S h0 hS => conn S h0 fun a b hab hb hP => hS (a, b) (e3 _ (hm a b hab hb) hP))
  rcases (show p = 1 ∨ p = 2 ∨ p = 3 ∨ p = 4 ∨ p = 5 by omega) with rfl | rfl | rfl | rfl | rfl
  · exact key 0 (fun a b h1 h2 => by omega) gchk1_ok
  · refine key 1 (fun a b h1 h2 => ?_) gchk2_ok
    obtain ⟨rfl, rfl⟩ : a = 0 ∧ b = 1 := by omega
    decide
  · refine key 3 (fun a b h1 h2 => ?_) gchk3_ok
    rcases (show (a = 0 ∧ b = 1) ∨ (a = 0 ∧ b = 2) ∨ (a = 1 ∧ b = 2) by omega) with ⟨rfl, rfl⟩ | ⟨rfl, rfl⟩ | ⟨rfl, rfl⟩ <;> decide
  · refine key 6 (fun a b h1 h2 => ?_) gchk4_ok
    rcases (show (a = 0 ∧ b = 1) ∨ (a = 0 ∧ b = 2) ∨ (a = 1 ∧ b = 2) ∨ (a = 0 ∧ b = 3) ∨ (a = 1 ∧ b = 3) ∨ (a = 2 ∧ b = 3) by omega) with ⟨rfl, rfl⟩ | ⟨rfl, rfl⟩ | ⟨rfl, rfl⟩ | ⟨rfl, rfl⟩ | ⟨rfl, rfl⟩ | ⟨rfl, rfl⟩ <;> decide
  · refine key 10 (fun a b h1 h2 => ?_) gchk5_ok
    rcases (show (a = 0 ∧ b = 1) ∨ (a = 0 ∧ b = 2) ∨ (a = 1 ∧ b = 2) ∨ (a = 0 ∧ b = 3) ∨ (a = 1 ∧ b = 3) ∨ (a = 2 ∧ b = 3) ∨ (a = 0 ∧ b = 4) ∨ (a = 1 ∧ b = 4) ∨ (a = 2 ∧ b = 4) ∨ (a = 3 ∧ b = 4) by omega) with ⟨rfl, rfl⟩ | ⟨rfl, rfl⟩ | ⟨rfl, rfl⟩ | ⟨rfl, rfl⟩ | ⟨rfl, rfl⟩ | ⟨rfl, rfl⟩ | ⟨rfl, rfl⟩ | ⟨rfl, rfl⟩ | ⟨rfl, rfl⟩ | ⟨rfl, rfl⟩ <;> decide

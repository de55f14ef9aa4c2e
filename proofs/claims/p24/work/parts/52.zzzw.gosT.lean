/-! everything to all: rows of calls that each tell something -/
def SK (U : Nat → Prop) (ea eb : Nat → Nat) (lc pe : Nat) (al : Int32) : Nat → (Nat → Int32) → Prop
  | 0, th => ∀ o : Nat, o < pe → th o = al
  | k + 1, th => ∃ l : Nat, l < lc ∧ U l ∧ ¬ th (ea l) = th (eb l) ∧ SK U ea eb lc pe al k (gaft th (ea l) (eb l))
/-- the lowest line that such a row can begin with -/
def GfK (U : Nat → Prop) (ea eb : Nat → Nat) (lc pe : Nat) (al : Int32) (k : Nat) (th : Nat → Int32) (l : Nat) : Prop := l < lc ∧ (U l ∧ ¬ th (ea l) = th (eb l) ∧ SK U ea eb lc pe al k (gaft th (ea l) (eb l))) ∧ ∀ m : Nat, m < l → ¬ (U m ∧ ¬ th (ea m) = th (eb m) ∧ SK U ea eb lc pe al k (gaft th (ea m) (eb m)))
/-- the lowest such row, as it stands from a place on -/
def RWW (U : Nat → Prop) (ea eb : Nat → Nat) (lc pe : Nat) (al : Int32) : Nat → (Nat → Int32) → (Nat → Int32) → Nat → Prop
  | 0, _, _, _ => True
  | k + 1, th, g, d => ∃ l : Nat, GfK U ea eb lc pe al k th l ∧ g d = nI l ∧ RWW U ea eb lc pe al k (gaft th (ea l) (eb l)) g (d + 1)
theorem gaft_sw (th : Nat → Int32) (a b : Nat) : gaft th a b = gaft th b a := funext fun o => by
  unfold gaft
  by_cases e : o = a ∨ o = b
  · rw [if_pos e, if_pos e.symm]
    exact b_ext fun i _ => by rw [b_or, b_or, Bool.or_comm]
  · rw [if_neg e, if_neg fun q => e q.symm]
theorem gaft_out {th : Nat → Int32} {a b o : Nat} (h : ¬ (o = a ∨ o = b)) : gaft th a b o = th o := if_neg h
theorem gaft_in {th : Nat → Int32} {a b o : Nat} (h : o = a ∨ o = b) : gaft th a b o = th a ||| th b := if_pos h
theorem or_slf (x : Int32) : x ||| x = x := b_ext fun i _ => by rw [b_or, Bool.or_self]
section
variable {U U2 : Nat → Prop} {ea eb : Nat → Nat} {lc pe : Nat} {al : Int32}
theorem sk_s {k : Nat} {th : Nat → Int32} : SK U ea eb lc pe al (k + 1) th ↔ ∃ l : Nat, l < lc ∧ U l ∧ ¬ th (ea l) = th (eb l) ∧ SK U ea eb lc pe al k (gaft th (ea l) (eb l)) := Iff.rfl
theorem sk_z {th : Nat → Int32} : SK U ea eb lc pe al 0 th ↔ ∀ o : Nat, o < pe → th o = al := Iff.rfl
theorem rww_s {k d : Nat} {th g : Nat → Int32} : RWW U ea eb lc pe al (k + 1) th g d ↔ ∃ l : Nat, GfK U ea eb lc pe al k th l ∧ g d = nI l ∧ RWW U ea eb lc pe al k (gaft th (ea l) (eb l)) g (d + 1) := Iff.rfl
theorem sk_cong (he : ∀ l : Nat, l < lc → ea l < pe ∧ eb l < pe) : ∀ (k : Nat) (th th2 : Nat → Int32), (∀ o : Nat, o < pe → th o = th2 o) → SK U ea eb lc pe al k th → SK U ea eb lc pe al k th2
  | 0, th, th2, e, h => sk_z.mpr fun o ho => (e o ho).symm.trans (sk_z.mp h o ho)
  | k + 1, th, th2, e, h => by
    obtain ⟨l, h1, h2, h3, h4⟩ := sk_s.mp h
    have q := he l h1
    refine sk_s.mpr ⟨l, h1, h2, ?_, sk_cong he k _ _ (gaft_cong q.1 q.2 e) h4⟩
    rw [← e _ q.1, ← e _ q.2]
    exact h3
theorem fk_cong (he : ∀ l : Nat, l < lc → ea l < pe ∧ eb l < pe) {k l : Nat} {th th2 : Nat → Int32} (e : ∀ o : Nat, o < pe → th o = th2 o) (h : GfK U ea eb lc pe al k th l) : GfK U ea eb lc pe al k th2 l := by
  obtain ⟨h1, ⟨a, b, c⟩, d⟩ := h
  have q := he l h1
  refine ⟨h1, ⟨a, ?_, sk_cong he k _ _ (gaft_cong q.1 q.2 e) c⟩, fun m hm z => ?_⟩
  · rw [← e _ q.1, ← e _ q.2]; exact b
  · have q2 := he m (by omega)
    refine d m hm ⟨z.1, ?_, sk_cong he k _ _ (gaft_cong q2.1 q2.2 fun o ho => (e o ho).symm) z.2.2⟩
    rw [e _ q2.1, e _ q2.2]
    exact z.2.1
theorem rww_cong (he : ∀ l : Nat, l < lc → ea l < pe ∧ eb l < pe) : ∀ (k : Nat) (th th2 g : Nat → Int32) (d : Nat), (∀ o : Nat, o < pe → th o = th2 o) → RWW U ea eb lc pe al k th g d → RWW U ea eb lc pe al k th2 g d
  | 0, _, _, _, _, _, _ => trivial
  | k + 1, th, th2, g, d, e, h => by
    obtain ⟨l, h1, h2, h3⟩ := rww_s.mp h
    have q := he l h1.1
    exact rww_s.mpr ⟨l, fk_cong he e h1, h2, rww_cong he k _ _ g (d + 1) (gaft_cong q.1 q.2 e) h3⟩
theorem fk_uniq {k l m : Nat} {th : Nat → Int32} (h : GfK U ea eb lc pe al k th l) (h2 : GfK U ea eb lc pe al k th m) : l = m := by
  rcases Nat.lt_trichotomy l m with q | q | q
  · exact absurd h.2.1 (h2.2.2 l q)
  · exact q
  · exact absurd h2.2.1 (h.2.2 m q)
theorem rww_uniq : ∀ (k : Nat) (th g g2 : Nat → Int32) (d d2 : Nat), RWW U ea eb lc pe al k th g d → RWW U ea eb lc pe al k th g2 d2 → ∀ t : Nat, t < k → g (d + t) = g2 (d2 + t)
  | 0, _, _, _, _, _, _, _, t, ht => absurd ht (Nat.not_lt_zero t)
  | k + 1, th, g, g2, d, d2, h, h2, t, ht => by
    obtain ⟨l, a1, a2, a3⟩ := rww_s.mp h
    obtain ⟨m, c1, c2, c3⟩ := rww_s.mp h2
    have e := fk_uniq a1 c1
    rw [← e] at c2 c3
    cases t with
    | zero => exact a2.trans c2.symm
    | succ t =>
      rw [show d + (t + 1) = d + 1 + t by omega, show d2 + (t + 1) = d2 + 1 + t by omega]
      exact rww_uniq k _ g g2 (d + 1) (d2 + 1) a3 c3 t (by omega)
/-! among lines of one couple the lowest does -/
theorem cpl_same {th : Nat → Int32} {l m : Nat} (h : (ea m = ea l ∧ eb m = eb l) ∨ (ea m = eb l ∧ eb m = ea l)) : (¬ th (ea m) = th (eb m) ↔ ¬ th (ea l) = th (eb l)) ∧ gaft th (ea m) (eb m) = gaft th (ea l) (eb l) := by
  rcases h with ⟨a, b⟩ | ⟨a, b⟩
  · rw [a, b]
    exact ⟨Iff.rfl, rfl⟩
  · rw [a, b]
    exact ⟨⟨fun q z => q z.symm, fun q z => q z.symm⟩, gaft_sw _ _ _⟩
theorem sk_low (hU : ∀ l : Nat, l < lc → U2 l → U l) (hlow : ∀ l : Nat, l < lc → U l → ∃ m : Nat, m ≤ l ∧ U2 m ∧ ((ea m = ea l ∧ eb m = eb l) ∨ (ea m = eb l ∧ eb m = ea l))) : ∀ (k : Nat) (th : Nat → Int32), SK U ea eb lc pe al k th ↔ SK U2 ea eb lc pe al k th
  | 0, _ => Iff.rfl
  | k + 1, th => by
    constructor
    · intro h
      obtain ⟨l, h1, h2, h3, h4⟩ := sk_s.mp h
      obtain ⟨m, m1, m2, m3⟩ := hlow l h1 h2
      obtain ⟨c1, c2⟩ := cpl_same (th := th) m3
      refine sk_s.mpr ⟨m, by omega, m2, c1.mpr h3, ?_⟩
      rw [c2]
      exact (sk_low hU hlow k _).mp h4
    · intro h
      obtain ⟨l, h1, h2, h3, h4⟩ := sk_s.mp h
      exact sk_s.mpr ⟨l, h1, hU l h1 h2, h3, (sk_low hU hlow k _).mpr h4⟩
theorem fk_low (hU : ∀ l : Nat, l < lc → U2 l → U l) (hlow : ∀ l : Nat, l < lc → U l → ∃ m : Nat, m ≤ l ∧ U2 m ∧ ((ea m = ea l ∧ eb m = eb l) ∨ (ea m = eb l ∧ eb m = ea l))) {k l : Nat} {th : Nat → Int32} (h : GfK U2 ea eb lc pe al k th l) : GfK U ea eb lc pe al k th l := by
  obtain ⟨h1, ⟨a, b, c⟩, d⟩ := h
  refine ⟨h1, ⟨hU l h1 a, b, (sk_low hU hlow k _).mpr c⟩, fun m hm q => ?_⟩
  obtain ⟨m2, p1, p2, p3⟩ := hlow m (by omega) q.1
  obtain ⟨c1, c2⟩ := cpl_same (th := th) p3
  refine d m2 (by omega) ⟨p2, c1.mpr q.2.1, ?_⟩
  rw [c2]
  exact (sk_low hU hlow k _).mp q.2.2
theorem rww_low (hU : ∀ l : Nat, l < lc → U2 l → U l) (hlow : ∀ l : Nat, l < lc → U l → ∃ m : Nat, m ≤ l ∧ U2 m ∧ ((ea m = ea l ∧ eb m = eb l) ∨ (ea m = eb l ∧ eb m = ea l))) : ∀ (k : Nat) (th g : Nat → Int32) (d : Nat), RWW U2 ea eb lc pe al k th g d → RWW U ea eb lc pe al k th g d
  | 0, _, _, _, _ => trivial
  | k + 1, th, g, d, h => by
    obtain ⟨l, h1, h2, h3⟩ := rww_s.mp h
    exact rww_s.mpr ⟨l, fk_low hU hlow h1, h2, rww_low hU hlow k _ g (d + 1) h3⟩
end
section
variable {U U2 : Nat → Prop} {ea eb ea2 eb2 : Nat → Nat} {lc pe : Nat} {al : Int32}
theorem sk_tr (h : ∀ l : Nat, l < lc → (U l ↔ U2 l) ∧ ea l = ea2 l ∧ eb l = eb2 l) : ∀ (k : Nat) (th : Nat → Int32), SK U ea eb lc pe al k th → SK U2 ea2 eb2 lc pe al k th
  | 0, _, z => z
  | k + 1, th, z => by
    obtain ⟨l, h1, h2, h3, h4⟩ := sk_s.mp z
    obtain ⟨e1, e2, e3⟩ := h l h1
    rw [e2, e3] at h3 h4
    exact sk_s.mpr ⟨l, h1, e1.mp h2, h3, sk_tr h k _ h4⟩
theorem sk_trs (h : ∀ l : Nat, l < lc → (U l ↔ U2 l) ∧ ea l = ea2 l ∧ eb l = eb2 l) : ∀ l : Nat, l < lc → (U2 l ↔ U l) ∧ ea2 l = ea l ∧ eb2 l = eb l := fun l hl => ⟨(h l hl).1.symm, (h l hl).2.1.symm, (h l hl).2.2.symm⟩
theorem rww_tr (h : ∀ l : Nat, l < lc → (U l ↔ U2 l) ∧ ea l = ea2 l ∧ eb l = eb2 l) : ∀ (k : Nat) (th g : Nat → Int32) (d : Nat), RWW U ea eb lc pe al k th g d → RWW U2 ea2 eb2 lc pe al k th g d
  | 0, _, _, _, _ => trivial
  | k + 1, th, g, d, z => by
    obtain ⟨l, ⟨h1, ⟨a, b, c⟩, f⟩, h2, h3⟩ := rww_s.mp z
    obtain ⟨e1, e2, e3⟩ := h l h1
    rw [e2, e3] at b c h3
    refine rww_s.mpr ⟨l, ⟨h1, ⟨e1.mp a, b, sk_tr h k _ c⟩, fun m hm q => ?_⟩, h2, rww_tr h k _ g (d + 1) h3⟩
    obtain ⟨n1, n2, n3⟩ := h m (by omega)
    refine f m hm ⟨n1.mpr q.1, ?_, ?_⟩
    · rw [n2, n3]; exact q.2.1
    · rw [n2, n3]; exact sk_tr (sk_trs h) k _ q.2.2
end
/-! counts -/
def cnb (f : Nat → Bool) : Nat → Nat
  | 0 => 0
  | n + 1 => cnb f n + (f n).toNat
theorem tn1 (b : Bool) : b.toNat ≤ 1 := by cases b <;> decide
theorem tn_and (x y : Bool) : x.toNat + y.toNat ≤ (x && y).toNat + (x && y).toNat + 1 := by cases x <;> cases y <;> decide
theorem cnb_le (f : Nat → Bool) : ∀ n : Nat, cnb f n ≤ n
  | 0 => Nat.le_refl _
  | n + 1 => by
    have h := cnb_le f n
    have h2 := tn1 (f n)
    show cnb f n + (f n).toNat ≤ n + 1
    omega
theorem cnb_cong {f g : Nat → Bool} : ∀ n : Nat, (∀ o : Nat, o < n → f o = g o) → cnb f n = cnb g n
  | 0, _ => rfl
  | n + 1, h => by
    show cnb f n + (f n).toNat = cnb g n + (g n).toNat
    rw [cnb_cong n (fun o ho => h o (by omega)), h n (Nat.lt_succ_self n)]
theorem cnb_0 {f : Nat → Bool} : ∀ n : Nat, (∀ o : Nat, o < n → f o = false) → cnb f n = 0
  | 0, _ => rfl
  | n + 1, h => by
    show cnb f n + (f n).toNat = 0
    rw [cnb_0 n (fun o ho => h o (by omega)), h n (Nat.lt_succ_self n)]
    rfl
theorem cnb_z {f : Nat → Bool} : ∀ n : Nat, cnb f n = 0 → ∀ o : Nat, o < n → f o = false
  | 0, _, o, ho => absurd ho (Nat.not_lt_zero o)
  | n + 1, h, o, ho => by
    have h : cnb f n + (f n).toNat = 0 := h
    by_cases e : o = n
    · rw [e]
      cases c : f n with
      | false => rfl
      | true =>
        rw [c] at h
        exact absurd (show cnb f n + 1 = 0 from h) (by omega)
    · exact cnb_z n (by omega) o (by omega)
theorem cnb_one {f g : Nat → Bool} {a : Nat} (h : ∀ o : Nat, ¬ o = a → f o = g o) : ∀ n : Nat, a < n → cnb f n + (g a).toNat = cnb g n + (f a).toNat
  | 0, ha => absurd ha (Nat.not_lt_zero a)
  | n + 1, ha => by
    show cnb f n + (f n).toNat + (g a).toNat = cnb g n + (g n).toNat + (f a).toNat
    by_cases e : a = n
    · rw [← e, cnb_cong a (fun o ho => h o (by omega))]
      omega
    · have ih := cnb_one h n (by omega)
      rw [h n (fun q => e q.symm)]
      omega
theorem cnb_two {f g : Nat → Bool} {a b n : Nat} (ha : a < n) (hb : b < n) (h : ∀ o : Nat, ¬ (o = a ∨ o = b) → f o = g o) : cnb f n ≤ cnb g n + 2 ∧ (g a = (f a && f b) → g b = (f a && f b) → cnb f n ≤ cnb g n + 1) := by
  by_cases e : a = b
  · have q := cnb_one (f := f) (g := g) (a := a) (fun o ho => h o (by omega)) n ha
    have t := tn1 (f a)
    exact ⟨by omega, fun _ _ => by omega⟩
  · obtain ⟨hh, hd⟩ : ∃ hh : Nat → Bool, ∀ o : Nat, hh o = if o = a then g a else f o := ⟨_, fun _ => rfl⟩
    have e1 : hh a = g a := by rw [hd, if_pos rfl]
    have e2 : hh b = f b := by rw [hd, if_neg fun q => e q.symm]
    have q1 := cnb_one (f := f) (g := hh) (a := a) (fun o ho => by rw [hd, if_neg ho]) n ha
    have q2 := cnb_one (f := hh) (g := g) (a := b) (fun o ho => by
      rw [hd]
      by_cases z : o = a
      · rw [if_pos z, z]
      · rw [if_neg z]
        exact h o fun q => q.elim z ho) n hb
    rw [e1] at q1
    rw [e2] at q2
    have t1 := tn1 (f a)
    have t2 := tn1 (f b)
    refine ⟨by omega, fun h1 h2 => ?_⟩
    rw [h1] at q1
    rw [h2] at q2
    have t3 := tn_and (f a) (f b)
    omega
theorem gaft_bit {th : Nat → Int32} {a b o i : Nat} (h : o = a ∨ o = b) : (!bt (gaft th a b o) i) = ((!bt (th a) i) && (!bt (th b) i)) := by
  rw [gaft_in h, b_or, Bool.not_or]
section
variable {U : Nat → Prop} {ea eb : Nat → Nat} {lc pe : Nat} {al : Int32}
theorem sk_count (he : ∀ l : Nat, l < lc → ea l < pe ∧ eb l < pe) (hal : ∀ i : Nat, i < pe → bt al i = true) : ∀ (k : Nat) (th : Nat → Int32), SK U ea eb lc pe al k th → (∀ i : Nat, i < pe → cnb (fun o => !bt (th o) i) pe ≤ k) ∧ cnb (fun o => !decide (th o = al)) pe ≤ 2 * k
  | 0, th, h => by
    have h := sk_z.mp h
    refine ⟨fun i hi => Nat.le_of_eq (cnb_0 pe fun o ho => ?_), Nat.le_of_eq (cnb_0 pe fun o ho => ?_)⟩
    · show (!bt (th o) i) = false
      rw [h o ho, hal i hi]
      rfl
    · show (!decide (th o = al)) = false
      rw [decide_eq_true (h o ho)]
      rfl
  | k + 1, th, h => by
    obtain ⟨l, h1, h2, h3, h4⟩ := sk_s.mp h
    obtain ⟨q1, q2⟩ := he l h1
    obtain ⟨i1, i2⟩ := sk_count he hal k _ h4
    constructor
    · intro i hi
      have c := (cnb_two (f := fun o => !bt (th o) i) (g := fun o => !bt (gaft th (ea l) (eb l) o) i) q1 q2 (fun o ho => by
        show (!bt (th o) i) = (!bt (gaft th (ea l) (eb l) o) i)
        rw [gaft_out ho])).2 (gaft_bit (Or.inl rfl)) (gaft_bit (Or.inr rfl))
      have d := i1 i hi
      omega
    · have c := (cnb_two (f := fun o => !decide (th o = al)) (g := fun o => !decide (gaft th (ea l) (eb l) o = al)) q1 q2 (fun o ho => by
        show (!decide (th o = al)) = (!decide (gaft th (ea l) (eb l) o = al))
        rw [gaft_out ho])).1
      omega
/-! no fewer: whose thing nobody else knows yet -/
theorem list_miss : ∀ (n : Nat) (T : List Nat), T.length < n → ∃ i : Nat, i < n ∧ ¬ i ∈ T
  | 0, _, h => absurd h (Nat.not_lt_zero _)
  | n + 1, T, h => by
    by_cases e : n ∈ T
    · obtain ⟨i, h1, h2⟩ := list_miss n (T.erase n) (by
        have h3 := List.length_erase_of_mem e
        have h4 := List.length_pos_of_mem e
        omega)
      exact ⟨i, by omega, fun q => h2 ((List.mem_erase_of_ne (by omega)).mpr q)⟩
    · exact ⟨n, Nat.lt_succ_self n, e⟩
theorem lone_count {th : Nat → Int32} {i : Nat} (hi : i < pe) (h : ∀ o : Nat, o < pe → ¬ o = i → bt (th o) i = false) : pe ≤ cnb (fun o => !bt (th o) i) pe + 1 := by
  have e : cnb (fun o => !bt (th o) i) pe = cnb (fun o => if o < pe then !bt (th o) i else true) pe := cnb_cong pe fun o ho => (if_pos ho).symm
  have c := cnb_one (f := fun o => if o < pe then !bt (th o) i else true) (g := fun _ => true) (a := i) (fun o ho => by
    show (if o < pe then !bt (th o) i else true) = true
    by_cases z : o < pe
    · rw [if_pos z, h o z ho]; rfl
    · rw [if_neg z]) pe hi
  have t : ∀ n : Nat, cnb (fun _ => true) n = n := fun n => by
    induction n with
    | zero => rfl
    | succ n ih =>
      show cnb (fun _ => true) n + 1 = n + 1
      rw [ih]
  have t2 := t pe
  have c2 : cnb (fun o => if o < pe then !bt (th o) i else true) pe + 1 = cnb (fun _ => true) pe + (if i < pe then !bt (th i) i else true).toNat := c
  omega
theorem sk_lone0 (he : ∀ l : Nat, l < lc → ea l < pe ∧ eb l < pe) (hal : ∀ i : Nat, i < pe → bt al i = true) {k : Nat} {th : Nat → Int32} {T : List Nat} (h : SK U ea eb lc pe al k th) (hT : ∀ i : Nat, i < pe → ¬ i ∈ T → ∀ o : Nat, o < pe → ¬ o = i → bt (th o) i = false) (hl : T.length < pe) : pe ≤ k + 1 := by
  obtain ⟨i, h1, h2⟩ := list_miss pe T hl
  have a := (sk_count he hal k th h).1 i h1
  have b := lone_count h1 (hT i h1 h2)
  omega
theorem sk_lone (he : ∀ l : Nat, l < lc → ea l < pe ∧ eb l < pe) (hal : ∀ i : Nat, i < pe → bt al i = true) : ∀ (t k : Nat) (th : Nat → Int32) (T : List Nat), SK U ea eb lc pe al k th → (∀ i : Nat, i < pe → ¬ i ∈ T → ∀ o : Nat, o < pe → ¬ o = i → bt (th o) i = false) → T.length + 2 * t < pe → pe + t ≤ k + 1
  | 0, k, th, T, h, hT, hl => sk_lone0 he hal h hT (by omega)
  | t + 1, 0, th, T, h, hT, hl => by
    have a := sk_lone0 he hal h hT (by omega)
    omega
  | t + 1, k + 1, th, T, h, hT, hl => by
    obtain ⟨l, h1, h2, h3, h4⟩ := sk_s.mp h
    have a := sk_lone he hal t k _ (ea l :: eb l :: T) h4 (fun i hi hn o ho hne => by
      have n1 : ¬ ea l = i := fun q => hn (by rw [← q]; exact List.mem_cons_self)
      have n2 : ¬ eb l = i := fun q => hn (by rw [← q]; exact List.mem_cons_of_mem _ List.mem_cons_self)
      have n3 : ¬ i ∈ T := fun q => hn (List.mem_cons_of_mem _ (List.mem_cons_of_mem _ q))
      obtain ⟨q1, q2⟩ := he l h1
      by_cases e : o = ea l ∨ o = eb l
      · rw [gaft_in e, b_or, hT i hi n3 _ q1 n1, hT i hi n3 _ q2 n2]; rfl
      · rw [gaft_out e]; exact hT i hi n3 o ho hne) (by
      rw [List.length_cons, List.length_cons]
      omega)
    omega
end
/-! the class -/
theorem ce_in {kn : Nat → Int32} {j : Nat} (hj : j < 32) : ∀ k : Nat, L2_X3_canEnd kn j 0 k = nI (cnb (fun o => !bt (kn o) j) k)
  | 0 => rfl
  | k + 1 => by
    show L2_X3_canEnds kn j k (L2_X3_canEnd kn j 0 k) = nI (cnb (fun o => !bt (kn o) j) k + (!bt (kn k) j).toNat)
    rw [ce_in hj k]
    unfold L2_X3_canEnds
    by_cases c : hasv (kn k) (nI j) = 0
    · rw [if_pos c, (hvb_0 hj).mp c]
      exact nI_add _ 1
    · rw [if_neg c, (bt_hasv hj).mp c]
      rfl
theorem ce_in3 {kn : Nat → Int32} {j : Nat} : ∀ k : Nat, L3_X3_canEnd kn j 0 k = L2_X3_canEnd kn j 0 k
  | 0 => rfl
  | k + 1 => by
    show L3_X3_canEnds kn j k (L3_X3_canEnd kn j 0 k) = L2_X3_canEnds kn j k (L2_X3_canEnd kn j 0 k)
    rw [ce_in3 k]
    rfl
theorem ce_run {al : Int32} {pe k : Nat} {kn : Nat → Int32} (hpe : pe ≤ 5) (hk : k ≤ 7) : ∀ m j : Nat, pe + 1 ≤ m + j → j ≤ pe → ((∀ i : Nat, i < pe → cnb (fun o => !bt (kn o) i) pe ≤ k) → cnb (fun o => !decide (kn o = al)) pe ≤ 2 * k → L1_X3_canEnd al pe kn (nI k) m j (nI (cnb (fun o => !decide (kn o = al)) j)) = 1) ∧ (¬ L1_X3_canEnd al pe kn (nI k) m j (nI (cnb (fun o => !decide (kn o = al)) j)) = 0 → cnb (fun o => !decide (kn o = al)) pe ≤ 2 * k)
  | 0, j, h, h2 => absurd h (by omega)
  | m + 1, j, h, h2 => by
    have hb := cnb_le (fun o => !decide (kn o = al)) pe
    rw [L1_X3_canEnd]
    by_cases c1 : nI pe ≤ nI j
    · rw [if_pos c1]
      have e : j = pe := by
        have := (nI_leI (a := pe) (b := j) (by omega) (by omega)).mp c1
        omega
      rw [e, show (2 : Int32) * nI k = nI (2 * k) from pk_mul 2 k]
      have q := nI_ltI (a := 2 * k) (b := cnb (fun o => !decide (kn o = al)) pe) (by omega) (by omega)
      by_cases c2 : nI (2 * k) < nI (cnb (fun o => !decide (kn o = al)) pe)
      · rw [if_pos c2]
        have q2 := q.mp c2
        exact ⟨fun _ z => absurd z (by omega), fun z => absurd rfl z⟩
      · rw [if_neg c2]
        exact ⟨fun _ _ => rfl, fun _ => Nat.le_of_not_lt fun z => c2 (q.mpr z)⟩
    · rw [if_neg c1]
      have hj : j < pe := by
        by_cases z : j < pe
        · exact z
        · exact absurd ((nI_leI (a := pe) (b := j) (by omega) (by omega)).mpr (by omega)) c1
      rw [ce_in3, ce_in (by omega) pe]
      have hb2 := cnb_le (fun o => !bt (kn o) j) pe
      have q := nI_leI (a := cnb (fun o => !bt (kn o) j) pe) (b := k) (by omega) (by omega)
      by_cases c2 : kn j = al
      · rw [if_pos c2]
        have e : cnb (fun o => !decide (kn o = al)) (j + 1) = cnb (fun o => !decide (kn o = al)) j := by
          show cnb (fun o => !decide (kn o = al)) j + (!decide (kn j = al)).toNat = _
          rw [decide_eq_true c2]
          rfl
        by_cases c3 : nI (cnb (fun o => !bt (kn o) j) pe) ≤ nI k
        · rw [if_pos c3, ← e]
          exact ce_run hpe hk m (j + 1) (by omega) (by omega)
        · rw [if_neg c3]
          exact ⟨fun z => absurd (z j hj) fun y => c3 (q.mpr y), fun z => absurd rfl z⟩
      · rw [if_neg c2]
        have e : nI (cnb (fun o => !decide (kn o = al)) j) + 1 = nI (cnb (fun o => !decide (kn o = al)) (j + 1)) := by
          rw [show cnb (fun o => !decide (kn o = al)) (j + 1) = cnb (fun o => !decide (kn o = al)) j + (!decide (kn j = al)).toNat from rfl, decide_eq_false c2]
          exact nI_add _ 1
        by_cases c3 : nI (cnb (fun o => !bt (kn o) j) pe) ≤ nI k
        · rw [if_pos c3, e]
          exact ce_run hpe hk m (j + 1) (by omega) (by omega)
        · rw [if_neg c3]
          exact ⟨fun z => absurd (z j hj) fun y => c3 (q.mpr y), fun z => absurd rfl z⟩
theorem ce_F {al : Int32} {pe k : Nat} {kn : Nat → Int32} (hpe : pe ≤ 5) (hk : k ≤ 7) : ((∀ i : Nat, i < pe → cnb (fun o => !bt (kn o) i) pe ≤ k) → cnb (fun o => !decide (kn o = al)) pe ≤ 2 * k → F_X3_canEnd al pe kn (nI k) = 1) ∧ (¬ F_X3_canEnd al pe kn (nI k) = 0 → cnb (fun o => !decide (kn o = al)) pe ≤ 2 * k) := ce_run hpe hk (pe + 1) 0 (by omega) (Nat.zero_le _)
theorem up_gaft (kn : Nat → Int32) (a b : Nat) : upd (upd kn a (kn a ||| kn b)) b (kn a ||| kn b) = gaft kn a b := funext fun o => by
  by_cases e2 : o = b
  · rw [e2, upd_eq]
    exact (gaft_in (Or.inr rfl)).symm
  · rw [upd_ne e2]
    by_cases e1 : o = a
    · rw [e1, upd_eq]
      exact (gaft_in (Or.inl rfl)).symm
    · rw [upd_ne e1]
      exact (gaft_out fun q => q.elim e1 e2).symm
theorem up_back (kn : Nat → Int32) (a b : Nat) : upd (upd (gaft kn a b) a (kn a)) b (kn b) = kn := funext fun o => by
  by_cases e2 : o = b
  · rw [e2, upd_eq]
  · rw [upd_ne e2]
    by_cases e1 : o = a
    · rw [e1, upd_eq]
    · rw [upd_ne e1]
      exact gaft_out fun q => q.elim e1 e2
abbrev UL (L : Nat → Int32) : Nat → Prop := fun l => b1 (L (l * 6 + 4)) = 0
abbrev GGK (L : Nat → Int32) (lc pe : Nat) (al : Int32) (f dn : Nat) (kn gr : Nat → Int32) (r : Int32 × (Nat → Int32) × (Nat → Int32)) : Prop := ((r.1 = 0 ∧ ¬ SK (UL L) (lnA L) (lnB L) lc pe al f kn ∧ r.2.1 = kn) ∨ (¬ r.1 = 0 ∧ SK (UL L) (lnA L) (lnB L) lc pe al f kn ∧ RWW (UL L) (lnA L) (lnB L) lc pe al f kn r.2.2 dn)) ∧ ∀ t : Nat, t < dn → r.2.2 t = gr t
theorem go_loop {L : Nat → Int32} {lc pe f dn : Nat} {al : Int32} {R : GOF} (hlc : lc ≤ 12) (hR : ∀ kn gr : Nat → Int32, GGK L lc pe al f (dn + 1) kn gr (R kn gr)) {kn gr : Nat → Int32} : ∀ (m j : Nat) (gg : Nat → Int32), lc + 1 ≤ m + j → j ≤ lc → (∀ l : Nat, l < j → ¬ (UL L l ∧ ¬ kn (lnA L l) = kn (lnB L l) ∧ SK (UL L) (lnA L) (lnB L) lc pe al f (gaft kn (lnA L l) (lnB L l)))) → (∀ t : Nat, t < dn → gg t = gr t) → GGK L lc pe al (f + 1) dn kn gr (L1_X3_goOn lc L dn R m j kn gg)
  | 0, j, gg, h, h2, _, _ => absurd h (by omega)
  | m + 1, j, gg, h, h2, h3, h4 => by
    rw [L1_X3_goOn]
    by_cases c1 : nI lc ≤ nI j
    · rw [if_pos c1]
      have e : j = lc := by
        have := (nI_leI (a := lc) (b := j) (by omega) (by omega)).mp c1
        omega
      refine ⟨Or.inl ⟨rfl, fun q => ?_, rfl⟩, h4⟩
      obtain ⟨l, q1, q2, q3, q4⟩ := sk_s.mp q
      exact h3 l (by omega) ⟨q2, q3, q4⟩
    · rw [if_neg c1]
      have hj : j < lc := by
        by_cases z : j < lc
        · exact z
        · exact absurd ((nI_leI (a := lc) (b := j) (by omega) (by omega)).mpr (by omega)) c1
      have h3s : ¬ (UL L j ∧ ¬ kn (lnA L j) = kn (lnB L j) ∧ SK (UL L) (lnA L) (lnB L) lc pe al f (gaft kn (lnA L j) (lnB L j))) → ∀ l : Nat, l < j + 1 → ¬ (UL L l ∧ ¬ kn (lnA L l) = kn (lnB L l) ∧ SK (UL L) (lnA L) (lnB L) lc pe al f (gaft kn (lnA L l) (lnB L l))) := fun hn l hl => by
        by_cases e : l = j
        · rw [e]; exact hn
        · exact h3 l (by omega)
      by_cases c2 : b1 (L (j * 6 + 4)) = 0
      · rw [if_pos c2]
        by_cases c3 : kn (lnA L j) = kn (lnB L j)
        · rw [if_pos c3]
          exact go_loop hlc hR m (j + 1) gg (by omega) (by omega) (h3s fun q => q.2.1 c3) h4
        · rw [if_neg c3, up_gaft]
          obtain ⟨r1, r2⟩ := hR (gaft kn (lnA L j) (lnB L j)) (upd gg dn (nI j))
          have h5 : ∀ t : Nat, t < dn → (R (gaft kn (lnA L j) (lnB L j)) (upd gg dn (nI j))).2.2 t = gr t := fun t ht => (r2 t (by omega)).trans ((upd_ne (by omega)).trans (h4 t ht))
          rcases r1 with ⟨a1, a2, a3⟩ | ⟨a1, a2, a3⟩
          · rw [if_pos a1, a3, up_back]
            exact go_loop hlc hR m (j + 1) _ (by omega) (by omega) (h3s fun q => a2 q.2.2) h5
          · rw [if_neg a1]
            exact ⟨Or.inr ⟨(by decide : ¬ (1 : Int32) = 0), sk_s.mpr ⟨j, hj, c2, c3, a2⟩, rww_s.mpr ⟨j, ⟨hj, ⟨c2, c3, a2⟩, h3⟩, (r2 dn (Nat.lt_succ_self _)).trans upd_eq, a3⟩⟩, h5⟩
      · rw [if_neg c2]
        exact go_loop hlc hR m (j + 1) gg (by omega) (by omega) (h3s fun q => c2 q.1) h4
theorem go_all {L : Nat → Int32} {lc pe ca : Nat} {al : Int32} (hlc : lc ≤ 12) (hpe : pe ≤ 5) (hca : ca ≤ 7) (he : ∀ l : Nat, l < lc → lnA L l < pe ∧ lnB L l < pe) (hal : ∀ i : Nat, i < pe → bt al i = true) : ∀ (f : Nat), f ≤ ca → ∀ kn gr : Nat → Int32, GGK L lc pe al f (ca - f) kn gr (GO al pe lc L ca f kn gr)
  | 0, _, kn, gr => by
    have c := ce_F (al := al) (kn := kn) (k := 0) hpe (by omega)
    show GGK L lc pe al 0 (ca - 0) kn gr (F_X3_goOn al pe lc kn gr L ca ca (fun K G => (0, K, G)))
    unfold F_X3_goOn
    rw [Nat.sub_self]
    by_cases c1 : F_X3_canEnd al pe kn (nI 0) = 0
    · rw [if_pos c1]
      refine ⟨Or.inl ⟨rfl, fun q => ?_, rfl⟩, fun t _ => rfl⟩
      obtain ⟨x, y⟩ := sk_count he hal 0 kn q
      rw [c.1 x y] at c1
      exact absurd c1 (by decide)
    · rw [if_neg c1, if_pos (Int32.le_refl _)]
      refine ⟨Or.inr ⟨(by decide : ¬ (1 : Int32) = 0), sk_z.mpr fun o ho => ?_, trivial⟩, fun t _ => rfl⟩
      have z := cnb_z pe (Nat.eq_zero_of_le_zero (c.2 c1)) o ho
      have z : (!decide (kn o = al)) = false := z
      cases y : decide (kn o = al) with
      | true => exact of_decide_eq_true y
      | false => rw [y] at z; exact absurd z (by decide)
  | f + 1, hf, kn, gr => by
    have c := ce_F (al := al) (kn := kn) (k := f + 1) hpe (by omega)
    show GGK L lc pe al (f + 1) (ca - (f + 1)) kn gr (F_X3_goOn al pe lc kn gr L (ca - (f + 1)) ca (GO al pe lc L ca f))
    unfold F_X3_goOn
    rw [show ca - (ca - (f + 1)) = f + 1 by omega]
    by_cases c1 : F_X3_canEnd al pe kn (nI (f + 1)) = 0
    · rw [if_pos c1]
      refine ⟨Or.inl ⟨rfl, fun q => ?_, rfl⟩, fun t _ => rfl⟩
      obtain ⟨x, y⟩ := sk_count he hal (f + 1) kn q
      rw [c.1 x y] at c1
      exact absurd c1 (by decide)
    · rw [if_neg c1, if_neg fun q => absurd ((nI_leI (a := ca) (b := ca - (f + 1)) (by omega) (by omega)).mp q) (by omega)]
      exact go_loop hlc (fun kn2 gr2 => by
        rw [show ca - (f + 1) + 1 = ca - f by omega]
        exact go_all hlc hpe hca he hal f (by omega) kn2 gr2) (lc + 1) 0 gr (by omega) (Nat.zero_le _) (fun l hl => absurd hl (Nat.not_lt_zero l)) (fun t _ => rfl)
/-- all know their own thing -/
abbrev th0 : Nat → Int32 := fun o => (1 : Int32) <<< (nI o &&& 31)
theorem se_th {t : Nat → Int32} : ∀ k o : Nat, o < k → L2_X3_search t k o = th0 o
  | 0, o, h => absurd h (Nat.not_lt_zero o)
  | k + 1, o, h => by
    show upd (L2_X3_search t k) k ((1 : Int32) <<< (nI k &&& 31)) o = _
    by_cases e : o = k
    · rw [e, upd_eq]
    · rw [upd_ne e]
      exact se_th k o (by omega)
theorem evy_al {pe : Nat} (hpe : pe ≤ 5) : ∀ i : Nat, i < pe → bt (evy (nI pe)) i = true := fun i hi => by
  rw [b_evy pe (by omega) i (by omega), decide_eq_true hi]
theorem se_loop {v pe lc n0 : Nat} {L : Nat → Int32} (hlc : lc ≤ 12) (hpe : pe ≤ 5) (he : ∀ l : Nat, l < lc → lnA L l < pe ∧ lnB L l < pe) (hn : SK (UL L) (lnA L) (lnB L) lc pe (evy (nI pe)) n0 th0) (hmin : ∀ m : Nat, m < n0 → ¬ SK (UL L) (lnA L) (lnB L) lc pe (evy (nI pe)) m th0) (hup : n0 ≤ upN pe) : ∀ (m j : Nat) (kn gr : Nat → Int32), upN pe + 1 - lwN pe + 1 ≤ m + j → lwN pe + j ≤ n0 → (L1_X3_search v pe lc L m j kn gr).1 = nI n0 ∧ RWW (UL L) (lnA L) (lnB L) lc pe (evy (nI pe)) n0 th0 (L1_X3_search v pe lc L m j kn gr).2.2.2.2 0
  | 0, j, _, _, h, h2 => absurd h (by omega)
  | m + 1, j, kn, gr, h, h2 => by
    have hlu := lu_at pe (by omega)
    rw [L1_X3_search, if_neg fun q => absurd ((nI_ltI (a := upN pe) (b := lwN pe + j) (by omega) (by omega)).mp q) (by omega)]
    have g := go_all (ca := lwN pe + j) hlc hpe (by omega) he (evy_al hpe) (lwN pe + j) (Nat.le_refl _) (L2_X3_search kn pe) gr
    rw [Nat.sub_self] at g
    have hs : ∀ o : Nat, o < pe → L2_X3_search kn pe o = th0 o := fun o ho => se_th pe o ho
    by_cases e : lwN pe + j = n0
    · rw [← e] at hn ⊢
      rcases g.1 with ⟨a1, a2, a3⟩ | ⟨a1, a2, a3⟩
      · exact absurd (sk_cong he _ _ _ (fun o ho => (hs o ho).symm) hn) a2
      · rw [if_neg a1]
        exact ⟨rfl, rww_cong he _ _ _ _ _ hs a3⟩
    · rcases g.1 with ⟨a1, a2, a3⟩ | ⟨a1, a2, a3⟩
      · rw [if_pos a1]
        exact se_loop hlc hpe he hn hmin hup m (j + 1) _ _ (by omega) (by omega)
      · exact absurd (sk_cong he _ _ _ hs a2) (hmin _ (by omega))
/-! so many calls are enough: the graphs of five at most, one by one -/
def gch2 (p : Nat) (g : Nat × List (Nat × Nat)) : Bool := !((List.range p).all fun o => tb g.1 o) || (Nat.ble (g.2 ++ g.2.reverse.tail).length (upN p) && gat p ((g.2 ++ g.2.reverse.tail).foldl gap [1, 2, 4, 8, 16]))
def gck2 (p m e : Nat) : Bool := gch2 p (grow (epg (prs.take m) e) 4 1 [])
theorem gck2_1 : (List.range 1).all (gck2 1 0) = true := by decide +kernel
theorem gck2_2 : (List.range 2).all (gck2 2 1) = true := by decide +kernel
theorem gck2_3 : (List.range 8).all (gck2 3 3) = true := by decide +kernel
theorem gck2_4 : (List.range 64).all (gck2 4 6) = true := by decide +kernel
theorem gck2_5 : (List.range 1024).all (gck2 5 10) = true := by decide +kernel
theorem gman1 {p : Nat} {E : List (Nat × Nat)} {g : Nat × List (Nat × Nat)} {P : Nat × Nat → Prop} (hp : p ≤ 5) (hc : gchk1 p E g = true) (hc2 : gch2 p g = true) (hE : ∀ q ∈ E, P q) (conn : ∀ S : Nat → Prop, S 0 → (∀ q ∈ E, S q.1 ↔ S q.2) → ∀ o : Nat, o < p → S o) : ∃ ls : List (Nat × Nat), ls.length ≤ upN p ∧ (∀ q ∈ ls, P q ∧ q.1 < p ∧ q.2 < p) ∧ gall p (nI (2 ^ p - 1)) (gfold (fun o => nI ([1, 2, 4, 8, 16].getD o 0)) ls) := by
  unfold gchk1 at hc
  simp only [Bool.and_eq_true] at hc
  obtain ⟨c1, c2, c3, c4, c5, c6⟩ := hc
  have c2 := List.all_eq_true.mp c2
  have c3 := List.all_eq_true.mp c3
  have c4 := List.all_eq_true.mp c4
  have hin : ∀ q ∈ g.2, P q ∧ q.1 < p ∧ q.2 < p := fun q hq => by
    obtain ⟨x, hx, he⟩ := List.any_eq_true.mp (c4 q hq)
    obtain ⟨e1, e2⟩ := Bool.and_eq_true_iff.mp he
    have e1 := Nat.eq_of_beq_eq_true e1
    have e2 := Nat.eq_of_beq_eq_true e2
    have e : q = x := Prod.ext e1 e2
    subst e
    have h3 := c3 q hx
    simp only [Bool.and_eq_true] at h3
    exact ⟨hE q hx, Nat.le_of_ble_eq_true h3.1, Nat.le_of_ble_eq_true h3.2⟩
  have hall : ((List.range p).all fun o => tb g.1 o) = true := List.all_eq_true.mpr fun o ho => by
    refine conn (fun o => tb g.1 o = true) c1 (fun q hq => ?_) o (List.mem_range.mp ho)
    have := c2 q hq
    cases h1 : tb g.1 q.1 <;> cases h2 : tb g.1 q.2 <;> rw [h1, h2] at this <;> first | exact Iff.rfl | cases this
  unfold gch2 at hc2
  rw [hall, Bool.not_true, Bool.false_or] at hc2
  obtain ⟨c7, c8⟩ := Bool.and_eq_true_iff.mp hc2
  have c8 := List.all_eq_true.mp c8
  have hv : ∀ q ∈ g.2 ++ g.2.reverse.tail, P q ∧ q.1 < p ∧ q.2 < p := fun q hq => by
    rcases List.mem_append.mp hq with h | h
    · exact hin q h
    · exact hin q (List.mem_reverse.mp (List.mem_of_mem_tail h))
  refine ⟨g.2 ++ g.2.reverse.tail, Nat.le_of_ble_eq_true c7, hv, fun o ho => ?_⟩
  rw [gfold_sim (l := [1, 2, 4, 8, 16]) (fun q hq => ⟨Nat.lt_of_lt_of_le (hv q hq).2.1 hp, Nat.lt_of_lt_of_le (hv q hq).2.2 hp⟩) (fun _ => rfl)]
  rw [Nat.eq_of_beq_eq_true (c8 o (List.mem_range.mpr ho))]
theorem gman {p : Nat} {P : Nat × Nat → Prop} (h1 : 1 ≤ p) (hp : p ≤ 5) (conn : ∀ S : Nat → Prop, S 0 → (∀ a b : Nat, a < b → b < p → P (a, b) → (S a ↔ S b)) → ∀ o : Nat, o < p → S o) : ∃ ls : List (Nat × Nat), ls.length ≤ upN p ∧ (∀ q ∈ ls, P q ∧ q.1 < p ∧ q.2 < p) ∧ gall p (nI (2 ^ p - 1)) (gfold (fun o => nI ([1, 2, 4, 8, 16].getD o 0)) ls) := by
  have key : ∀ m : Nat, (∀ a b : Nat, a < b → b < p → (a, b) ∈ prs.take m) → (List.range (2 ^ (prs.take m).length)).all (gchk p m) = true → (List.range (2 ^ (prs.take m).length)).all (gck2 p m) = true → ∃ ls : List (Nat × Nat), ls.length ≤ upN p ∧ (∀ q ∈ ls, P q ∧ q.1 < p ∧ q.2 < p) ∧ gall p (nI (2 ^ p - 1)) (gfold (fun o => nI ([1, 2, 4, 8, 16].getD o 0)) ls) := fun m hm hch hch2 => by
    obtain ⟨e, e1, e2, e3⟩ := epg_ex P (prs.take m)
    exact gman1 hp (List.all_eq_true.mp hch e (List.mem_range.mpr e1)) (List.all_eq_true.mp hch2 e (List.mem_range.mpr e1)) e2 (fun S h0 hS => conn S h0 fun a b hab hb hP => hS (a, b) (e3 _ (hm a b hab hb) hP))
  rcases (show p = 1 ∨ p = 2 ∨ p = 3 ∨ p = 4 ∨ p = 5 by omega) with rfl | rfl | rfl | rfl | rfl
  · exact key 0 (fun a b h1 h2 => by omega) gchk1_ok gck2_1
  · refine key 1 (fun a b h1 h2 => ?_) gchk2_ok gck2_2
    obtain ⟨rfl, rfl⟩ : a = 0 ∧ b = 1 := by omega
    decide
  · refine key 3 (fun a b h1 h2 => ?_) gchk3_ok gck2_3
    rcases (show (a = 0 ∧ b = 1) ∨ (a = 0 ∧ b = 2) ∨ (a = 1 ∧ b = 2) by omega) with ⟨rfl, rfl⟩ | ⟨rfl, rfl⟩ | ⟨rfl, rfl⟩ <;> decide
  · refine key 6 (fun a b h1 h2 => ?_) gchk4_ok gck2_4
    rcases (show (a = 0 ∧ b = 1) ∨ (a = 0 ∧ b = 2) ∨ (a = 1 ∧ b = 2) ∨ (a = 0 ∧ b = 3) ∨ (a = 1 ∧ b = 3) ∨ (a = 2 ∧ b = 3) by omega) with ⟨rfl, rfl⟩ | ⟨rfl, rfl⟩ | ⟨rfl, rfl⟩ | ⟨rfl, rfl⟩ | ⟨rfl, rfl⟩ | ⟨rfl, rfl⟩ <;> decide
  · refine key 10 (fun a b h1 h2 => ?_) gchk5_ok gck2_5
    rcases (show (a = 0 ∧ b = 1) ∨ (a = 0 ∧ b = 2) ∨ (a = 1 ∧ b = 2) ∨ (a = 0 ∧ b = 3) ∨ (a = 1 ∧ b = 3) ∨ (a = 2 ∧ b = 3) ∨ (a = 0 ∧ b = 4) ∨ (a = 1 ∧ b = 4) ∨ (a = 2 ∧ b = 4) ∨ (a = 3 ∧ b = 4) by omega) with ⟨rfl, rfl⟩ | ⟨rfl, rfl⟩ | ⟨rfl, rfl⟩ | ⟨rfl, rfl⟩ | ⟨rfl, rfl⟩ | ⟨rfl, rfl⟩ | ⟨rfl, rfl⟩ | ⟨rfl, rfl⟩ | ⟨rfl, rfl⟩ | ⟨rfl, rfl⟩ <;> decide
theorem gok_sk {L : Nat → Int32} {lc pe : Nat} {ev : Int32} : ∀ (k : Nat) (th : Nat → Int32), gok (fun q => ∃ l : Nat, l < lc ∧ tw L l q.1 q.2) pe ev k th → ∃ m : Nat, m ≤ k ∧ SK (UL L) (lnA L) (lnB L) lc pe ev m th
  | 0, th, h => ⟨0, Nat.le_refl _, sk_z.mpr (gok_0 h)⟩
  | k + 1, th, h => by
    by_cases c : gall pe ev th
    · exact ⟨0, Nat.zero_le _, sk_z.mpr c⟩
    · obtain ⟨ls, a, b, d⟩ := h
      obtain ⟨q, ⟨l, hl, hu, hcp⟩, q2, q3, q4, q5⟩ := gok_first a b d c
      obtain ⟨m, hm, hs⟩ := gok_sk k _ q5
      have hne : ¬ th q.1 = th q.2 := fun z => q4 ⟨by rw [← z, or_slf], by rw [← z, or_slf]⟩
      refine ⟨m + 1, by omega, sk_s.mpr ⟨l, hl, hu, ?_, ?_⟩⟩
      · rcases hcp with ⟨e1, e2⟩ | ⟨e1, e2⟩
        · rw [e1, e2]; exact hne
        · rw [e1, e2]; exact fun z => hne z.symm
      · rcases hcp with ⟨e1, e2⟩ | ⟨e1, e2⟩
        · rw [e1, e2]; exact hs
        · rw [e1, e2, gaft_sw]; exact hs
theorem bl_S {L : Nat → Int32} {lc pe : Nat} (hpe : pe ≤ 7) (hE : endsIn L lc pe) {S : Nat → Prop} (h0 : S 0) (hS : ∀ a b : Nat, a < b → b < pe → (∃ l : Nat, l < lc ∧ tw L l a b) → (S a ↔ S b)) : ∀ s o : Nat, Bl L lc pe s o → S o
  | 0, o, h => by
    have h : o = 0 := h
    rw [h]; exact h0
  | s + 1, o, h => by
    rcases h with h | ⟨c, hc, hb, j, hj, ht⟩
    · exact bl_S hpe hE h0 hS s o h
    · have hSc := bl_S hpe hE h0 hS s c hb
      have ho := (tw_lt hpe hE hj ht).2
      rcases Nat.lt_trichotomy c o with q | q | q
      · exact (hS c o q ho ⟨j, hj, ht⟩).mp hSc
      · rw [← q]; exact hSc
      · refine (hS o c q hc ⟨j, hj, ht.1, ?_⟩).mpr hSc
        rcases ht.2 with ⟨e1, e2⟩ | ⟨e1, e2⟩
        · exact Or.inr ⟨e2, e1⟩
        · exact Or.inl ⟨e2, e1⟩
theorem ev_num : ∀ p : Nat, p < 6 → nI (2 ^ p - 1) = evy (nI p) := by decide +kernel
theorem th_num : ∀ o : Nat, o < 5 → nI ([1, 2, 4, 8, 16].getD o 0) = (1 : Int32) <<< (nI o &&& 31) := by decide +kernel
theorem th_lone : ∀ o : Nat, o < 8 → ∀ i : Nat, i < 8 → ¬ o = i → bt ((1 : Int32) <<< (nI o &&& 31)) i = false := by decide +kernel
theorem sk_ex {L : Nat → Int32} {lc pe : Nat} (hpe : pe ≤ 5) (hE : endsIn L lc pe) (hh : ¬ holds L lc pe = 0) : ∃ m : Nat, m ≤ upN pe ∧ SK (UL L) (lnA L) (lnB L) lc pe (evy (nI pe)) m th0 := by
  have h1 := holds_pos hh
  have hd : hld L lc pe (pe - 1) = evy (nI pe) := Classical.byContradiction fun q => hh (if_neg q)
  obtain ⟨ls, a, b, c⟩ := gman (p := pe) (P := fun q => ∃ l : Nat, l < lc ∧ tw L l q.1 q.2) h1 hpe (fun S h0 hS o ho => by
    refine bl_S (by omega) hE h0 hS (pe - 1) o ((hld_bit (by omega) hE (pe - 1) o (by omega)).mp ?_)
    rw [hd, evy_al hpe o ho])
  rw [ev_num pe (by omega)] at c
  exact gok_sk (upN pe) th0 (gok_cong ⟨ls, a, b, c⟩ fun o ho => th_num o (by omega))
theorem sk_lw {L : Nat → Int32} {lc pe k : Nat} (h1 : 1 ≤ pe) (hpe : pe ≤ 5) (he : ∀ l : Nat, l < lc → lnA L l < pe ∧ lnB L l < pe) (h : SK (UL L) (lnA L) (lnB L) lc pe (evy (nI pe)) k th0) : lwN pe ≤ k := by
  have hT : ∀ i : Nat, i < pe → ¬ i ∈ ([] : List Nat) → ∀ o : Nat, o < pe → ¬ o = i → bt (th0 o) i = false := fun i hi _ o ho hne => th_lone o (by omega) i (by omega) hne
  have a := fun t (ht : ([] : List Nat).length + 2 * t < pe) => sk_lone he (evy_al hpe) t k th0 [] h hT ht
  rcases (show pe = 1 ∨ pe = 2 ∨ pe = 3 ∨ pe = 4 ∨ pe = 5 by omega) with rfl | rfl | rfl | rfl | rfl
  · exact Nat.zero_le _
  · have := a 0 (by decide)
    show 1 ≤ k
    omega
  · have := a 1 (by decide)
    show 3 ≤ k
    omega
  · have := a 1 (by decide)
    show 4 ≤ k
    omega
  · have := a 2 (by decide)
    show 6 ≤ k
    omega
theorem least_ex {P : Nat → Prop} : ∀ n : Nat, (∃ m : Nat, m ≤ n ∧ P m) → ∃ k : Nat, k ≤ n ∧ P k ∧ ∀ m : Nat, m < k → ¬ P m
  | 0, ⟨m, hm, hp⟩ => ⟨0, Nat.le_refl _, by rw [show (0 : Nat) = m by omega]; exact hp, fun x hx => absurd hx (Nat.not_lt_zero x)⟩
  | n + 1, ⟨m, hm, hp⟩ => by
    by_cases e : ∃ x : Nat, x ≤ n ∧ P x
    · obtain ⟨k, a, b, c⟩ := least_ex n e
      exact ⟨k, by omega, b, c⟩
    · refine ⟨n + 1, Nat.le_refl _, ?_, fun x hx q => e ⟨x, by omega, q⟩⟩
      by_cases z : m = n + 1
      · rw [← z]; exact hp
      · exact absurd ⟨m, by omega, hp⟩ e
/-! the answer -/
def skw (L : Nat → Int32) (lc pe n : Nat) : Prop := SK (UL L) (lnA L) (lnB L) lc pe (evy (nI pe)) n th0 ∧ ∀ m : Nat, m < n → ¬ SK (UL L) (lnA L) (lnB L) lc pe (evy (nI pe)) m th0
noncomputable def gN (L : Nat → Int32) (lc pe : Nat) : Nat := Classical.epsilon (skw L lc pe)
noncomputable def gRw (L : Nat → Int32) (lc pe : Nat) : Nat → Int32 := Classical.epsilon fun g : Nat → Int32 => RWW (UL L) (lnA L) (lnB L) lc pe (evy (nI pe)) (gN L lc pe) th0 g 0
noncomputable def fwN (L : Nat → Int32) (lc pe : Nat) : Int32 := if 5 < nI pe then -1 else if holds L lc pe = 0 then -1 else nI (gN L lc pe)
theorem gN_at {L : Nat → Int32} {lc pe : Nat} (hpe : pe ≤ 5) (hE : endsIn L lc pe) (hh : ¬ holds L lc pe = 0) : skw L lc pe (gN L lc pe) ∧ lwN pe ≤ gN L lc pe ∧ gN L lc pe ≤ upN pe := by
  obtain ⟨k, a, b, c⟩ := least_ex (upN pe) (sk_ex hpe hE hh)
  have h : skw L lc pe (gN L lc pe) := Classical.epsilon_spec (p := skw L lc pe) ⟨k, b, c⟩
  refine ⟨h, sk_lw (holds_pos hh) hpe (fun l hl => (ends_at hE (by omega) hl).2.2) h.1, ?_⟩
  by_cases q : gN L lc pe ≤ k
  · omega
  · exact absurd b (h.2 k (by omega))
theorem gRw_at {L : Nat → Int32} {lc pe : Nat} {g : Nat → Int32} (h : RWW (UL L) (lnA L) (lnB L) lc pe (evy (nI pe)) (gN L lc pe) th0 g 0) : ∀ t : Nat, t < gN L lc pe → g t = gRw L lc pe t := fun t ht => by
  have h2 : RWW (UL L) (lnA L) (lnB L) lc pe (evy (nI pe)) (gN L lc pe) th0 (gRw L lc pe) 0 := Classical.epsilon_spec (p := fun g : Nat → Int32 => RWW (UL L) (lnA L) (lnB L) lc pe (evy (nI pe)) (gN L lc pe) th0 g 0) ⟨g, h⟩
  have e := rww_uniq _ _ _ _ 0 0 h h2 t ht
  rw [Nat.zero_add] at e
  exact e
theorem fw_rng {L : Nat → Int32} {lc pe : Nat} (hpe : pe ≤ 7) (hE : endsIn L lc pe) : fwN L lc pe ≤ 7 ∧ fwN L lc pe - 1 < 8 ∧ ∀ t : Nat, t < 7 → nI t < fwN L lc pe → t < gN L lc pe := by
  unfold fwN
  by_cases c1 : 5 < nI pe
  · rw [if_pos c1]
    exact ⟨by decide, by decide, fun t ht q => absurd (Int32.lt_trans q (by decide : (-1 : Int32) < 0)) (nI_nn (by omega))⟩
  · rw [if_neg c1]
    have h5 : pe ≤ 5 := Nat.le_of_not_lt fun q9 => c1 ((nI_ltI (a := 5) (b := pe) (by omega) (by omega)).mpr q9)
    by_cases c2 : holds L lc pe = 0
    · rw [if_pos c2]
      exact ⟨by decide, by decide, fun t ht q => absurd (Int32.lt_trans q (by decide : (-1 : Int32) < 0)) (nI_nn (by omega))⟩
    · rw [if_neg c2]
      obtain ⟨-, -, h⟩ := gN_at h5 hE c2
      have h7 := (lu_at pe (by omega)).2
      refine ⟨(nI_leI (a := gN L lc pe) (b := 7) (by omega) (by omega)).mpr (by omega), ?_, fun t ht q => (nI_ltI (a := t) (b := gN L lc pe) (by omega) (by omega)).mp q⟩
      exact (by decide +kernel : ∀ n : Nat, n < 8 → nI n - 1 < 8) _ (by omega)
theorem gfw_cls {L : Nat → Int32} {lc pe v : Nat} {al0 : Int32} {w0 : Value} {kn gr : Nat → Int32} (hlc : lc ≤ 12) (hpe : pe ≤ 7) (hE : endsIn L lc pe) : (F_X3_search al0 w0 v pe lc kn gr L).1 = fwN L lc pe ∧ ∀ t : Nat, t < 7 → nI t < fwN L lc pe → (F_X3_search al0 w0 v pe lc kn gr L).2.2.2.2 t = gRw L lc pe t := by
  have hr := (fw_rng (lc := lc) hpe hE).2.2
  unfold F_X3_search
  by_cases c1 : 5 < nI pe
  · rw [if_pos c1]
    have e : fwN L lc pe = -1 := if_pos c1
    exact ⟨e.symm, fun t ht q => absurd (Int32.lt_trans (show nI t < -1 by rw [← e]; exact q) (by decide : (-1 : Int32) < 0)) (nI_nn (by omega))⟩
  · rw [if_neg c1]
    have h5 : pe ≤ 5 := Nat.le_of_not_lt fun q9 => c1 ((nI_ltI (a := 5) (b := pe) (by omega) (by omega)).mpr q9)
    by_cases c2 : holds L lc pe = 0
    · rw [if_pos c2]
      have e : fwN L lc pe = -1 := (if_neg c1).trans (if_pos c2)
      exact ⟨e.symm, fun t ht q => absurd (Int32.lt_trans (show nI t < -1 by rw [← e]; exact q) (by decide : (-1 : Int32) < 0)) (nI_nn (by omega))⟩
    · rw [if_neg c2]
      have e : fwN L lc pe = nI (gN L lc pe) := (if_neg c1).trans (if_neg c2)
      obtain ⟨h, hl, hu⟩ := gN_at h5 hE c2
      obtain ⟨a, b⟩ := se_loop (v := v) hlc h5 (fun l hl => (ends_at hE (by omega) hl).2.2) h.1 h.2 hu (upN pe + 1 - lwN pe + 1) 0 kn gr (by omega) (by omega)
      exact ⟨a.trans e.symm, fun t ht q => gRw_at b t (hr t ht q)⟩
/-! the reference -/
section
variable {rP rA rB rO lW : Nat → Int32} {i lc pe dn : Nat}
theorem g1_all {tH : Nat → Int32} : ∀ k : Nat, ¬ L1_X12_gossips rP tH i dn 1 k = 0 ↔ ∀ o : Nat, o < k → tH (7 * dn + o) = F_X12_everybody rP i
  | 0 => ⟨fun _ o ho => absurd ho (Nat.not_lt_zero o), fun _ => (by decide : ¬ (1 : Int32) = 0)⟩
  | k + 1 => by
    have ih := g1_all (tH := tH) k
    rw [L1_X12_gossips, L1_X12_gossipss]
    by_cases c1 : L1_X12_gossips rP tH i dn 1 k = 0
    · rw [if_pos c1]
      exact ⟨fun q => absurd rfl q, fun q => absurd c1 (ih.mpr fun o ho => q o (by omega))⟩
    · rw [if_neg c1]
      by_cases c2 : tH (7 * dn + k) = F_X12_everybody rP i
      · rw [if_pos c2]
        refine ⟨fun _ o ho => ?_, fun _ => by decide⟩
        by_cases e : o = k
        · rw [e]; exact c2
        · exact ih.mp c1 o (by omega)
      · rw [if_neg c2]
        exact ⟨fun q => absurd rfl q, fun q => absurd (q k (Nat.lt_succ_self k)) c2⟩
theorem g4_3 {j : Nat} {X T : Nat → Int32} : ∀ k : Nat, L4_X12_gossips rA rB i dn j X T k = L3_X12_gossips rA rB i dn j X T k
  | 0 => rfl
  | k + 1 => by
    show L4_X12_gossipss rA rB i dn j X k (L4_X12_gossips rA rB i dn j X T k) = L3_X12_gossipss rA rB i dn j X k (L3_X12_gossips rA rB i dn j X T k)
    rw [g4_3 k]
    rfl
theorem g3_at {j a b : Nat} {T : Nat → Int32} (ha : tN (rA (12 * i + j)) = a) (hb : tN (rB (12 * i + j)) = b) (ha7 : a < 7) (hb7 : b < 7) : ∀ k : Nat, k ≤ 7 → (∀ x : Nat, x < 7 * (dn + 1) → L3_X12_gossips rA rB i dn j T T k x = T x) ∧ ∀ o : Nat, o < k → L3_X12_gossips rA rB i dn j T T k (7 * dn + 7 + o) = gaft (rwt T dn) a b o
  | 0, _ => ⟨fun _ _ => rfl, fun o ho => absurd ho (Nat.not_lt_zero o)⟩
  | k + 1, hk => by
    obtain ⟨i1, i2⟩ := g3_at (T := T) ha hb ha7 hb7 k (by omega)
    have e : L3_X12_gossips rA rB i dn j T T (k + 1) = L3_X12_gossipss rA rB i dn j T k (L3_X12_gossips rA rB i dn j T T k) := rfl
    rw [e]
    unfold L3_X12_gossipss
    rw [ha, hb]
    have key : ∀ y : Int32, y = gaft (rwt T dn) a b k → (∀ x : Nat, x < 7 * (dn + 1) → upd (L3_X12_gossips rA rB i dn j T T k) (7 * dn + 7 + k) y x = T x) ∧ ∀ o : Nat, o < k + 1 → upd (L3_X12_gossips rA rB i dn j T T k) (7 * dn + 7 + k) y (7 * dn + 7 + o) = gaft (rwt T dn) a b o := fun y hy => by
      refine ⟨fun x hx => (upd_ne (by omega)).trans (i1 x hx), fun o ho => ?_⟩
      by_cases z : o = k
      · rw [z, upd_eq]; exact hy
      · rw [upd_ne (by omega)]; exact i2 o (by omega)
    have n1 := nI_eq (a := k) (b := a) (by omega) (by omega)
    have n2 := nI_eq (a := k) (b := b) (by omega) (by omega)
    by_cases c1 : nI k = nI a
    · rw [if_pos c1]
      exact key _ (gaft_in (th := rwt T dn) (a := a) (b := b) (Or.inl (n1.mp c1))).symm
    · rw [if_neg c1]
      by_cases c2 : nI k = nI b
      · rw [if_pos c2]
        exact key _ (gaft_in (th := rwt T dn) (a := a) (b := b) (Or.inr (n2.mp c2))).symm
      · rw [if_neg c2]
        refine key _ ?_
        rw [i1 (7 * dn + k) (by omega), gaft_out fun q => q.elim (fun z => c1 (n1.mpr z)) fun z => c2 (n2.mpr z)]
        rfl
abbrev eA (rA : Nat → Int32) (i : Nat) : Nat → Nat := fun l => tN (rA (12 * i + l))
abbrev SK2 (lW rA rB : Nat → Int32) (i lc pe : Nat) (al : Int32) : Nat → (Nat → Int32) → Prop := SK (fun l => ¬ lW l = 0) (eA rA i) (eA rB i) lc pe al
abbrev RW2 (lW rA rB : Nat → Int32) (i lc pe : Nat) (al : Int32) : Nat → (Nat → Int32) → (Nat → Int32) → Nat → Prop := RWW (fun l => ¬ lW l = 0) (eA rA i) (eA rB i) lc pe al
abbrev GPK (lW rA rB : Nat → Int32) (i lc pe : Nat) (al : Int32) (le dn : Nat) (T G : Nat → Int32) (r : Int32 × (Nat → Int32) × (Nat → Int32)) : Prop := ((r.1 = 0 ∧ ∀ j : Nat, j ≤ le → ¬ SK2 lW rA rB i lc pe al j (rwt T dn)) ∨ (¬ r.1 = 0 ∧ (∃ j : Nat, j ≤ le ∧ SK2 lW rA rB i lc pe al j (rwt T dn)) ∧ ((∀ j : Nat, j < le → ¬ SK2 lW rA rB i lc pe al j (rwt T dn)) → RW2 lW rA rB i lc pe al le (rwt T dn) r.2.2 dn))) ∧ (∀ x : Nat, x < 7 * (dn + 1) → r.2.1 x = T x) ∧ ∀ t : Nat, t < dn → r.2.2 t = G t
theorem gp_loop {al : Int32} {le : Nat} {R : GOF} (hlc : lc ≤ 12) (hpe : pe ≤ 7) (he : ∀ l : Nat, l < lc → eA rA i l < pe ∧ eA rB i l < pe) (hR : ∀ T G : Nat → Int32, GPK lW rA rB i lc pe al le (dn + 1) T G (R T G)) {T G : Nat → Int32} (h0 : ¬ SK2 lW rA rB i lc pe al 0 (rwt T dn)) : ∀ (m j : Nat) (Th Gg : Nat → Int32), lc + 1 ≤ m + j → j ≤ lc → (∀ l : Nat, l < j → ¬ ((¬ lW l = 0) ∧ ¬ rwt T dn (eA rA i l) = rwt T dn (eA rB i l) ∧ ∃ q : Nat, q ≤ le ∧ SK2 lW rA rB i lc pe al q (gaft (rwt T dn) (eA rA i l) (eA rB i l)))) → (∀ x : Nat, x < 7 * (dn + 1) → Th x = T x) → (∀ t : Nat, t < dn → Gg t = G t) → GPK lW rA rB i lc pe al (le + 1) dn T G (L2_X12_gossips rA rB lW i lc pe dn R m j Th Gg)
  | 0, j, _, _, h, h2, _, _, _ => absurd h (by omega)
  | m + 1, j, Th, Gg, h, h2, h3, h4, h5 => by
    rw [L2_X12_gossips]
    by_cases c1 : nI lc ≤ nI j
    · rw [if_pos c1]
      have e : j = lc := by
        have := (nI_leI (a := lc) (b := j) (by omega) (by omega)).mp c1
        omega
      refine ⟨Or.inl ⟨rfl, fun q hq z => ?_⟩, h4, h5⟩
      cases q with
      | zero => exact h0 z
      | succ q =>
        obtain ⟨l, q1, q2, q3, q4⟩ := sk_s.mp z
        exact h3 l (by omega) ⟨q2, q3, q, by omega, q4⟩
    · rw [if_neg c1]
      have hj : j < lc := by
        by_cases z : j < lc
        · exact z
        · exact absurd ((nI_leI (a := lc) (b := j) (by omega) (by omega)).mpr (by omega)) c1
      obtain ⟨q1, q2⟩ := he j hj
      have h3s : ¬ ((¬ lW j = 0) ∧ ¬ rwt T dn (eA rA i j) = rwt T dn (eA rB i j) ∧ ∃ q : Nat, q ≤ le ∧ SK2 lW rA rB i lc pe al q (gaft (rwt T dn) (eA rA i j) (eA rB i j))) → ∀ l : Nat, l < j + 1 → ¬ ((¬ lW l = 0) ∧ ¬ rwt T dn (eA rA i l) = rwt T dn (eA rB i l) ∧ ∃ q : Nat, q ≤ le ∧ SK2 lW rA rB i lc pe al q (gaft (rwt T dn) (eA rA i l) (eA rB i l))) := fun hn l hl => by
        by_cases e : l = j
        · rw [e]; exact hn
        · exact h3 l (by omega)
      by_cases c2 : lW j = 0
      · rw [if_pos c2]
        exact gp_loop hlc hpe he hR h0 m (j + 1) Th Gg (by omega) (by omega) (h3s fun q => q.1 c2) h4 h5
      · rw [if_neg c2, g4_3]
        have e1 : Th (7 * dn + tN (rA (12 * i + j))) = rwt T dn (eA rA i j) := h4 _ (by have : eA rA i j < pe := q1; show 7 * dn + eA rA i j < _; omega)
        have e2 : Th (7 * dn + tN (rB (12 * i + j))) = rwt T dn (eA rB i j) := h4 _ (by have : eA rB i j < pe := q2; show 7 * dn + eA rB i j < _; omega)
        rw [e1, e2]
        obtain ⟨g1, g2⟩ := g3_at (rA := rA) (rB := rB) (i := i) (dn := dn) (T := Th) (j := j) (a := eA rA i j) (b := eA rB i j) rfl rfl (by omega) (by omega) pe (by omega)
        have hst : ∀ o : Nat, o < pe → rwt (L3_X12_gossips rA rB i dn j Th Th pe) (dn + 1) o = gaft (rwt T dn) (eA rA i j) (eA rB i j) o := fun o ho => by
          show L3_X12_gossips rA rB i dn j Th Th pe (7 * (dn + 1) + o) = _
          rw [show 7 * (dn + 1) + o = 7 * dn + 7 + o by omega, g2 o ho]
          exact gaft_cong q1 q2 (fun x hx => h4 _ (by omega)) o ho
        obtain ⟨r1, r2, r3⟩ := hR (L3_X12_gossips rA rB i dn j Th Th pe) (upd Gg dn (nI j))
        have h6 : ∀ x : Nat, x < 7 * (dn + 1) → (R (L3_X12_gossips rA rB i dn j Th Th pe) (upd Gg dn (nI j))).2.1 x = T x := fun x hx => (r2 x (by omega)).trans ((g1 x hx).trans (h4 x hx))
        have h7 : ∀ t : Nat, t < dn → (R (L3_X12_gossips rA rB i dn j Th Th pe) (upd Gg dn (nI j))).2.2 t = G t := fun t ht => (r3 t (by omega)).trans ((upd_ne (by omega)).trans (h5 t ht))
        have step : ¬ rwt T dn (eA rA i j) = rwt T dn (eA rB i j) → GPK lW rA rB i lc pe al (le + 1) dn T G (if (R (L3_X12_gossips rA rB i dn j Th Th pe) (upd Gg dn (nI j))).1 = 0 then L2_X12_gossips rA rB lW i lc pe dn R m (j + 1) (R (L3_X12_gossips rA rB i dn j Th Th pe) (upd Gg dn (nI j))).2.1 (R (L3_X12_gossips rA rB i dn j Th Th pe) (upd Gg dn (nI j))).2.2 else ((1 : Int32), (R (L3_X12_gossips rA rB i dn j Th Th pe) (upd Gg dn (nI j))).2.1, (R (L3_X12_gossips rA rB i dn j Th Th pe) (upd Gg dn (nI j))).2.2)) := fun hne => by
          rcases r1 with ⟨a1, a2⟩ | ⟨a1, ⟨q, a2, a3⟩, a4⟩
          · rw [if_pos a1]
            exact gp_loop hlc hpe he hR h0 m (j + 1) _ _ (by omega) (by omega) (h3s fun z => by
              obtain ⟨-, -, q, z1, z2⟩ := z
              exact a2 q z1 (sk_cong he q _ _ (fun o ho => (hst o ho).symm) z2)) h6 h7
          · rw [if_neg a1]
            have a5 := sk_cong he q _ _ hst a3
            refine ⟨Or.inr ⟨(by decide : ¬ (1 : Int32) = 0), ⟨q + 1, by omega, sk_s.mpr ⟨j, hj, c2, hne, a5⟩⟩, fun hm => ?_⟩, h6, h7⟩
            have a6 : ∀ x : Nat, x < le → ¬ SK2 lW rA rB i lc pe al x (gaft (rwt T dn) (eA rA i j) (eA rB i j)) := fun x hx z => hm (x + 1) (by omega) (sk_s.mpr ⟨j, hj, c2, hne, z⟩)
            have a7 : q = le := by
              by_cases z : q = le
              · exact z
              · exact absurd a5 (a6 q (by omega))
            rw [a7] at a5
            refine rww_s.mpr ⟨j, ⟨hj, ⟨c2, hne, a5⟩, fun l hl z => h3 l hl ⟨z.1, z.2.1, le, Nat.le_refl _, z.2.2⟩⟩, (r3 dn (Nat.lt_succ_self _)).trans upd_eq, ?_⟩
            exact rww_cong he le _ _ _ _ hst (a4 fun x hx z => a6 x hx (sk_cong he x _ _ hst z))
        by_cases c3 : rwt T dn (eA rA i j) = rwt T dn (eA rA i j) ||| rwt T dn (eA rB i j)
        · rw [if_pos c3]
          by_cases c4 : rwt T dn (eA rB i j) = rwt T dn (eA rA i j) ||| rwt T dn (eA rB i j)
          · rw [if_pos c4]
            exact gp_loop hlc hpe he hR h0 m (j + 1) Th Gg (by omega) (by omega) (h3s fun q => q.2.1 (c3.trans c4.symm)) h4 h5
          · rw [if_neg c4]
            exact step fun z => c4 (by rw [z, or_slf])
        · rw [if_neg c3]
          exact step fun z => c3 (by rw [← z, or_slf])
theorem gp_all (hlc : lc ≤ 12) (hpe : pe ≤ 7) (he : ∀ l : Nat, l < lc → eA rA i l < pe ∧ eA rB i l < pe) : ∀ (le dn : Nat) (T G : Nat → Int32), le < 2 ^ 30 → GPK lW rA rB i lc pe (F_X12_everybody rP i) le dn T G (GP rP rA rB lW i lc pe le dn T G)
  | 0, dn, T, G, _ => by
    have a := g1_all (rP := rP) (i := i) (dn := dn) (tH := T) pe
    show GPK lW rA rB i lc pe (F_X12_everybody rP i) 0 dn T G (F_X12_gossips rP rA rB T G lW i lc pe dn 0 (fun K G => (0, K, G)))
    unfold F_X12_gossips
    by_cases c1 : L1_X12_gossips rP T i dn 1 pe = 0
    · rw [if_pos c1, if_pos (show nI 0 = 0 from rfl)]
      refine ⟨Or.inl ⟨c1, fun j hj z => ?_⟩, fun _ _ => rfl, fun _ _ => rfl⟩
      rw [show j = 0 by omega] at z
      exact a.mpr (sk_z.mp z) c1
    · rw [if_neg c1]
      exact ⟨Or.inr ⟨c1, ⟨0, Nat.le_refl _, sk_z.mpr (a.mp c1)⟩, fun _ => trivial⟩, fun _ _ => rfl, fun _ _ => rfl⟩
  | le + 1, dn, T, G, hle => by
    have a := g1_all (rP := rP) (i := i) (dn := dn) (tH := T) pe
    show GPK lW rA rB i lc pe (F_X12_everybody rP i) (le + 1) dn T G (F_X12_gossips rP rA rB T G lW i lc pe dn (le + 1) (GP rP rA rB lW i lc pe le (dn + 1)))
    unfold F_X12_gossips
    by_cases c1 : L1_X12_gossips rP T i dn 1 pe = 0
    · rw [if_pos c1, if_neg (show ¬ nI (le + 1) = 0 from fun q => absurd ((nI_eq (a := le + 1) (b := 0) (by omega) (by omega)).mp q) (by omega))]
      exact gp_loop hlc hpe he (fun T2 G2 => gp_all hlc hpe he le (dn + 1) T2 G2 (by omega)) (fun z => a.mpr (sk_z.mp z) c1) (lc + 1) 0 T G (by omega) (Nat.zero_le _) (fun l hl => absurd hl (Nat.not_lt_zero l)) (fun _ _ => rfl) (fun _ _ => rfl)
    · rw [if_neg c1]
      exact ⟨Or.inr ⟨c1, ⟨0, Nat.zero_le _, sk_z.mpr (a.mp c1)⟩, fun q => absurd (sk_z.mpr (a.mp c1)) (q 0 (Nat.succ_pos _))⟩, fun _ _ => rfl, fun _ _ => rfl⟩
/-! the lowest of parallel lines -/
theorem jn_0 {k : Nat} {x y : Int32} (h : rO k = 0) : ¬ F_X12_joins rA rB rO k x y = 0 ↔ (rA k = x ∧ rB k = y) ∨ (rA k = y ∧ rB k = x) := by
  unfold F_X12_joins
  by_cases a1 : rA k = x
  · rw [if_pos a1]
    by_cases a2 : rB k = y
    · rw [if_pos a2]
      exact ⟨fun _ => Or.inl ⟨a1, a2⟩, fun _ => by decide⟩
    · rw [if_neg a2, if_pos h]
      by_cases a3 : rA k = y
      · rw [if_pos a3]
        by_cases a4 : rB k = x
        · rw [if_pos a4]
          exact ⟨fun _ => Or.inr ⟨a3, a4⟩, fun _ => by decide⟩
        · rw [if_neg a4]
          exact ⟨fun q => absurd rfl q, fun q => (q.elim (fun z => a2 z.2) fun z => a4 z.2).elim⟩
      · rw [if_neg a3]
        exact ⟨fun q => absurd rfl q, fun q => (q.elim (fun z => a2 z.2) fun z => a3 z.1).elim⟩
  · rw [if_neg a1, if_pos h]
    by_cases a3 : rA k = y
    · rw [if_pos a3]
      by_cases a4 : rB k = x
      · rw [if_pos a4]
        exact ⟨fun _ => Or.inr ⟨a3, a4⟩, fun _ => by decide⟩
      · rw [if_neg a4]
        exact ⟨fun q => absurd rfl q, fun q => (q.elim (fun z => a1 z.1) fun z => a4 z.2).elim⟩
    · rw [if_neg a3]
      exact ⟨fun q => absurd rfl q, fun q => (q.elim (fun z => a1 z.1) fun z => a3 z.1).elim⟩
theorem lo_in {c : Nat} {W : Nat → Int32} : ∀ k : Nat, k ≤ c → (∀ o : Nat, ¬ o = c → L4_X12_fewestOf rA rB rO i c W k o = W o) ∧ (¬ L4_X12_fewestOf rA rB rO i c W k c = 0 ↔ ¬ W c = 0 ∧ ∀ o : Nat, o < k → ¬ W o = 0 → F_X12_joins rA rB rO (12 * i + o) (rA (12 * i + c)) (rB (12 * i + c)) = 0)
  | 0, _ => ⟨fun _ _ => rfl, ⟨fun q => ⟨q, fun o ho => absurd ho (Nat.not_lt_zero o)⟩, fun q => q.1⟩⟩
  | k + 1, hk => by
    obtain ⟨i1, i2⟩ := lo_in (c := c) (W := W) k (by omega)
    have e : L4_X12_fewestOf rA rB rO i c W (k + 1) = L4_X12_fewestOfs rA rB rO i c k (L4_X12_fewestOf rA rB rO i c W k) := rfl
    rw [e]
    unfold L4_X12_fewestOfs
    rw [i1 k (by omega)]
    by_cases c1 : W k = 0
    · rw [if_pos c1]
      refine ⟨i1, i2.trans ⟨fun q => ⟨q.1, fun o ho hw => ?_⟩, fun q => ⟨q.1, fun o ho hw => q.2 o (by omega) hw⟩⟩⟩
      by_cases z : o = k
      · exact absurd (z ▸ c1) hw
      · exact q.2 o (by omega) hw
    · rw [if_neg c1]
      by_cases c2 : F_X12_joins rA rB rO (12 * i + k) (rA (12 * i + c)) (rB (12 * i + c)) = 0
      · rw [if_pos c2]
        refine ⟨i1, i2.trans ⟨fun q => ⟨q.1, fun o ho hw => ?_⟩, fun q => ⟨q.1, fun o ho hw => q.2 o (by omega) hw⟩⟩⟩
        by_cases z : o = k
        · rw [z]; exact c2
        · exact q.2 o (by omega) hw
      · rw [if_neg c2]
        refine ⟨fun o ho => (upd_ne ho).trans (i1 o ho), ?_⟩
        rw [upd_eq]
        exact ⟨fun q => absurd rfl q, fun q => absurd (q.2 k (Nat.lt_succ_self k) c1) c2⟩
theorem l5_4 {c : Nat} {W : Nat → Int32} : ∀ k : Nat, L5_X12_fewestOf rA rB rO i c W k = L4_X12_fewestOf rA rB rO i c W k
  | 0 => rfl
  | k + 1 => by
    show L5_X12_fewestOfs rA rB rO i c k (L5_X12_fewestOf rA rB rO i c W k) = L4_X12_fewestOfs rA rB rO i c k (L4_X12_fewestOf rA rB rO i c W k)
    rw [l5_4 k]
    rfl
theorem lo_all : ∀ (k : Nat) (l : Nat), l < k → (¬ L1_X12_fewestOf rA rB rO i lW k l = 0 ↔ rO (12 * i + l) = 0 ∧ ∀ o : Nat, o < l → ¬ L1_X12_fewestOf rA rB rO i lW k o = 0 → F_X12_joins rA rB rO (12 * i + o) (rA (12 * i + l)) (rB (12 * i + l)) = 0)
  | 0, l, h => absurd h (Nat.not_lt_zero l)
  | k + 1, l, h => by
    have ih := lo_all k
    have e : L1_X12_fewestOf rA rB rO i lW (k + 1) = L1_X12_fewestOfs rA rB rO i k (L1_X12_fewestOf rA rB rO i lW k) := rfl
    rw [e]
    unfold L1_X12_fewestOfs
    have key : ∀ y : Int32, (¬ y = 0 ↔ rO (12 * i + k) = 0) → (¬ L4_X12_fewestOf rA rB rO i k (upd (L1_X12_fewestOf rA rB rO i lW k) k y) k l = 0 ↔ rO (12 * i + l) = 0 ∧ ∀ o : Nat, o < l → ¬ L4_X12_fewestOf rA rB rO i k (upd (L1_X12_fewestOf rA rB rO i lW k) k y) k o = 0 → F_X12_joins rA rB rO (12 * i + o) (rA (12 * i + l)) (rB (12 * i + l)) = 0) := fun y hy => by
      obtain ⟨i1, i2⟩ := lo_in (rA := rA) (rB := rB) (rO := rO) (i := i) (c := k) (W := upd (L1_X12_fewestOf rA rB rO i lW k) k y) k (Nat.le_refl _)
      have i3 : ∀ o : Nat, o < k → L4_X12_fewestOf rA rB rO i k (upd (L1_X12_fewestOf rA rB rO i lW k) k y) k o = L1_X12_fewestOf rA rB rO i lW k o := fun o ho => (i1 o (by omega)).trans (upd_ne (by omega))
      by_cases z : l = k
      · rw [z, i2, upd_eq, hy]
        constructor
        · intro q
          exact ⟨q.1, fun o ho hw => q.2 o ho (by rw [upd_ne (by omega)]; rw [i3 o ho] at hw; exact hw)⟩
        · intro q
          exact ⟨q.1, fun o ho hw => q.2 o ho (by rw [i3 o ho]; rw [upd_ne (by omega)] at hw; exact hw)⟩
      · rw [i3 l (by omega), ih l (by omega)]
        constructor
        · intro q
          exact ⟨q.1, fun o ho hw => q.2 o ho (by rw [i3 o (by omega)] at hw; exact hw)⟩
        · intro q
          exact ⟨q.1, fun o ho hw => q.2 o ho (by rw [i3 o (by omega)]; exact hw)⟩
    by_cases c : rO (12 * i + k) = 0
    · rw [if_pos c, l5_4]
      exact key 1 ⟨fun _ => c, fun _ => by decide⟩
    · rw [if_neg c]
      exact key 0 ⟨fun q => absurd rfl q, fun q => absurd q c⟩
theorem lo_ex {k : Nat} : ∀ (n l : Nat), l ≤ n → l < k → rO (12 * i + l) = 0 → ∃ m : Nat, m ≤ l ∧ ¬ L1_X12_fewestOf rA rB rO i lW k m = 0 ∧ ((rA (12 * i + m) = rA (12 * i + l) ∧ rB (12 * i + m) = rB (12 * i + l)) ∨ (rA (12 * i + m) = rB (12 * i + l) ∧ rB (12 * i + m) = rA (12 * i + l)))
  | n, l, hn, hl, h => by
    by_cases c : L1_X12_fewestOf rA rB rO i lW k l = 0
    · have q := (lo_all (rA := rA) (rB := rB) (rO := rO) (i := i) (lW := lW) k l hl)
      have q2 : ¬ ∀ o : Nat, o < l → ¬ L1_X12_fewestOf rA rB rO i lW k o = 0 → F_X12_joins rA rB rO (12 * i + o) (rA (12 * i + l)) (rB (12 * i + l)) = 0 := fun z => q.mpr ⟨h, z⟩ c
      obtain ⟨o, q3⟩ := Classical.not_forall.mp q2
      obtain ⟨q4, q5⟩ := Classical.not_imp.mp q3
      obtain ⟨q6, q7⟩ := Classical.not_imp.mp q5
      exact ⟨o, by omega, q6, (jn_0 ((lo_all k o (by omega)).mp q6).1).mp q7⟩
    · exact ⟨l, Nat.le_refl _, c, Or.inl ⟨rfl, rfl⟩⟩
end
theorem fo_loop {rP rA rB rO lW : Nat → Int32} {i lc pe n0 : Nat} (hlc : lc ≤ 12) (hpe : pe ≤ 7) (he : ∀ l : Nat, l < lc → eA rA i l < pe ∧ eA rB i l < pe) (hn : SK2 (L1_X12_fewestOf rA rB rO i lW lc) rA rB i lc pe (F_X12_everybody rP i) n0 th0) (hmin : ∀ m : Nat, m < n0 → ¬ SK2 (L1_X12_fewestOf rA rB rO i lW lc) rA rB i lc pe (F_X12_everybody rP i) m th0) (h7 : n0 ≤ 7) : ∀ (m j : Nat) (T G : Nat → Int32), 8 ≤ m + j → j ≤ n0 → (∀ o : Nat, o < pe → T o = th0 o) → (L3_X12_fewestOf rP rA rB rO lW i lc pe m j T G).1 = nI n0 ∧ RW2 (L1_X12_fewestOf rA rB rO i lW lc) rA rB i lc pe (F_X12_everybody rP i) n0 th0 (L3_X12_fewestOf rP rA rB rO lW i lc pe m j T G).2.2.1 0
  | 0, j, _, _, h, h2, _ => absurd h (by omega)
  | m + 1, j, T, G, h, h2, h3 => by
    obtain ⟨g1, g2, g3⟩ := gp_all (rP := rP) (lW := L1_X12_fewestOf rA rB rO i lW lc) hlc hpe he j 0 T G (by omega)
    have hT : ∀ o : Nat, o < pe → rwt T 0 o = th0 o := fun o ho => by
      show T (7 * 0 + o) = _
      rw [Nat.mul_zero, Nat.zero_add]
      exact h3 o ho
    rw [L3_X12_fewestOf]
    by_cases e : j = n0
    · rcases g1 with ⟨a1, a2⟩ | ⟨a1, a2, a3⟩
      · exact absurd (sk_cong he _ _ _ (fun o ho => (hT o ho).symm) hn) (a2 n0 (by omega))
      · rw [if_neg a1]
        refine ⟨congrArg nI e, ?_⟩
        have a4 := rww_cong he _ _ _ _ _ hT (a3 fun x hx z => hmin x (by omega) (sk_cong he _ _ _ hT z))
        rw [← e]
        exact a4
    · rcases g1 with ⟨a1, a2⟩ | ⟨a1, ⟨q, a2, a3⟩, a4⟩
      · rw [if_pos a1]
        exact fo_loop hlc hpe he hn hmin h7 m (j + 1) _ _ (by omega) (by omega) fun o ho => (g2 o (by omega)).trans (h3 o ho)
      · exact absurd (sk_cong he _ _ _ hT a3) (hmin q (by omega))
/-! the two sides -/
section
variable {w : VV} {F : Nat → Nat → Int32} {i : Nat}
theorem lr_of (ow : OWB w) (hr : RP1 F i w) : LRW w.L (F 12) (F 13) (F 17) w.lc i := fun j hj => by
  obtain ⟨r12, r13, r14, r15, r16, r17⟩ := hr.2.2.2.2.1 j hj
  refine ⟨r12, r13, ?_⟩
  rw [r17]
  rcases ow j hj with q | q <;> rw [q] <;> decide
theorem ev_of (hr : RP1 F i w) : F_X12_everybody (F 6) i = evy (nI w.p) := by
  unfold F_X12_everybody
  rw [hr.1]
  rfl
theorem eA_of (ow : OWB w) (hr : RP1 F i w) : ∀ l : Nat, l < w.lc → eA (F 12) i l = lnA w.L l ∧ eA (F 13) i l = lnB w.L l := fun l hl => by
  obtain ⟨a, b, -⟩ := lr_of ow hr l hl
  exact ⟨congrArg tN a, congrArg tN b⟩
theorem eA_lt (ok : VOK w) (ow : OWB w) (hr : RP1 F i w) : ∀ l : Nat, l < w.lc → eA (F 12) i l < w.p ∧ eA (F 13) i l < w.p := fun l hl => by
  obtain ⟨a, b⟩ := eA_of ow hr l hl
  rw [a, b]
  exact (ends_at ok.2.2.1 ok.1 hl).2.2
theorem hU_of {lW : Nat → Int32} : ∀ l : Nat, l < w.lc → ¬ L1_X12_fewestOf (F 12) (F 13) (F 17) i lW w.lc l = 0 → F 17 (12 * i + l) = 0 := fun l hl q => ((lo_all w.lc l hl).mp q).1
theorem hlow_of {lW : Nat → Int32} : ∀ l : Nat, l < w.lc → F 17 (12 * i + l) = 0 → ∃ m : Nat, m ≤ l ∧ (¬ L1_X12_fewestOf (F 12) (F 13) (F 17) i lW w.lc m = 0) ∧ ((eA (F 12) i m = eA (F 12) i l ∧ eA (F 13) i m = eA (F 13) i l) ∨ (eA (F 12) i m = eA (F 13) i l ∧ eA (F 13) i m = eA (F 12) i l)) := fun l hl q => by
  obtain ⟨m, h1, h2, h3⟩ := lo_ex (rA := F 12) (rB := F 13) (rO := F 17) (i := i) (lW := lW) l l (Nat.le_refl _) hl q
  exact ⟨m, h1, h2, h3.imp (fun z => ⟨congrArg tN z.1, congrArg tN z.2⟩) fun z => ⟨congrArg tN z.1, congrArg tN z.2⟩⟩
theorem tr_of (ow : OWB w) (hr : RP1 F i w) : ∀ l : Nat, l < w.lc → (F 17 (12 * i + l) = 0 ↔ UL w.L l) ∧ eA (F 12) i l = lnA w.L l ∧ eA (F 13) i l = lnB w.L l := fun l hl => ⟨(lr_of ow hr l hl).2.2, eA_of ow hr l hl⟩
theorem sk2_of (ow : OWB w) (hr : RP1 F i w) {lW : Nat → Int32} (k : Nat) : SK2 (L1_X12_fewestOf (F 12) (F 13) (F 17) i lW w.lc) (F 12) (F 13) i w.lc w.p (F_X12_everybody (F 6) i) k th0 ↔ SK (UL w.L) (lnA w.L) (lnB w.L) w.lc w.p (evy (nI w.p)) k th0 := by
  rw [ev_of hr]
  have a := sk_low (U := fun l => F 17 (12 * i + l) = 0) (U2 := fun l => ¬ L1_X12_fewestOf (F 12) (F 13) (F 17) i lW w.lc l = 0) (ea := eA (F 12) i) (eb := eA (F 13) i) (lc := w.lc) (pe := w.p) (al := evy (nI w.p)) (fun l hl q => hU_of l hl q) (fun l hl q => hlow_of l hl q) k th0
  exact a.symm.trans ⟨sk_tr (tr_of ow hr) k th0, sk_tr (sk_trs (tr_of ow hr)) k th0⟩
theorem gp_keep (ok : VOK w) (ow : OWB w) (hr : RP1 F i w) (W : Nat → Int32) (n : Nat) (T G : Nat → Int32) (o : Nat) (hn : n ≤ 7) (ho : o < 7) : (GP (F 6) (F 12) (F 13) W i w.lc w.p n 0 T G).2.1 o = T o := (gp_all (rP := F 6) (lW := W) ok.2.1 ok.1 (eA_lt ok ow hr) n 0 T G (by omega)).2.1 o (by omega)
theorem gp_fin (ok : VOK w) (ow : OWB w) (hr : RP1 F i w) {lW : Nat → Int32} (n : Nat) (T G : Nat → Int32) (hn : n ≤ 7) (hT : ∀ o : Nat, o < w.p → T o = (1 : Int32) <<< (nI o &&& 31)) (h5 : w.p ≤ 5) (hh : ¬ F_X12_holdsAll (F 6) (F 12) (F 13) (F 17) w.lc i = 0) (h : (GP (F 6) (F 12) (F 13) (L1_X12_fewestOf (F 12) (F 13) (F 17) i lW w.lc) i w.lc w.p n 0 T G).1 = 0) : n < 7 := by
  rw [holdsAll_agree ok ow hr] at hh
  obtain ⟨⟨h1, h2⟩, h3, h4⟩ := gN_at h5 ok.2.2.1 hh
  have h7 := (lu_at w.p (by omega)).2
  rcases (gp_all (rP := F 6) (lW := L1_X12_fewestOf (F 12) (F 13) (F 17) i lW w.lc) ok.2.1 ok.1 (eA_lt ok ow hr) n 0 T G (by omega)).1 with ⟨-, a⟩ | ⟨a, -⟩
  · by_cases q : gN w.L w.lc w.p ≤ n
    · refine absurd (sk_cong (eA_lt ok ow hr) _ _ _ (fun o ho => ?_) ((sk2_of ow hr _).mpr h1)) (a _ q)
      show _ = T (7 * 0 + o)
      rw [Nat.mul_zero, Nat.zero_add]
      exact (hT o ho).symm
    · omega
  · exact absurd h a
theorem fo_ref (ok : VOK w) (ow : OWB w) (hr : RP1 F i w) {tH gR lW : Nat → Int32} : (F_X12_fewestOf (F 6) (F 12) (F 13) (F 17) tH gR lW i w.lc w.p).1 = fwN w.L w.lc w.p ∧ ∀ t : Nat, t < 7 → nI t < fwN w.L w.lc w.p → (F_X12_fewestOf (F 6) (F 12) (F 13) (F 17) tH gR lW i w.lc w.p).2.2.1 t = gRw w.L w.lc w.p t := by
  have hrg := (fw_rng (lc := w.lc) ok.1 ok.2.2.1).2.2
  unfold F_X12_fewestOf
  by_cases c1 : 5 < nI w.p
  · rw [if_pos c1]
    have e : fwN w.L w.lc w.p = -1 := if_pos c1
    exact ⟨e.symm, fun t ht q => absurd (Int32.lt_trans (show nI t < -1 by rw [← e]; exact q) (by decide : (-1 : Int32) < 0)) (nI_nn (by omega))⟩
  · rw [if_neg c1, holdsAll_agree ok ow hr]
    have h5 : w.p ≤ 5 := Nat.le_of_not_lt fun q9 => c1 ((nI_ltI (a := 5) (b := w.p) (by omega) (by have := ok.1; omega)).mpr q9)
    by_cases c2 : holds w.L w.lc w.p = 0
    · rw [if_pos c2]
      have e : fwN w.L w.lc w.p = -1 := (if_neg c1).trans (if_pos c2)
      exact ⟨e.symm, fun t ht q => absurd (Int32.lt_trans (show nI t < -1 by rw [← e]; exact q) (by decide : (-1 : Int32) < 0)) (nI_nn (by omega))⟩
    · rw [if_neg c2]
      have e : fwN w.L w.lc w.p = nI (gN w.L w.lc w.p) := (if_neg c1).trans (if_neg c2)
      obtain ⟨h, hl, hu⟩ := gN_at h5 ok.2.2.1 c2
      have h7 := (lu_at w.p (by omega)).2
      obtain ⟨a, b⟩ := fo_loop (rP := F 6) (rA := F 12) (rB := F 13) (rO := F 17) (lW := lW) (i := i) (lc := w.lc) (pe := w.p) (n0 := gN w.L w.lc w.p) ok.2.1 ok.1 (eA_lt ok ow hr) ((sk2_of ow hr _).mpr h.1) (fun m hm z => h.2 m hm ((sk2_of ow hr _).mp z)) (by omega) (7 + 1) 0 (L2_X12_fewestOf tH w.p) gR (by omega) (Nat.zero_le _) (fun o ho => th_1 w.p o ho)
      refine ⟨a.trans e.symm, fun t ht q => gRw_at ?_ t (hrg t ht q)⟩
      rw [ev_of hr] at b
      have b2 := rww_low (U := fun l => F 17 (12 * i + l) = 0) (U2 := fun l => ¬ L1_X12_fewestOf (F 12) (F 13) (F 17) i lW w.lc l = 0) (fun l hl q => hU_of l hl q) (fun l hl q => hlow_of l hl q) _ _ _ _ b
      exact rww_tr (tr_of ow hr) _ _ _ _ b2
end
noncomputable def fwA (w : VV) : Int32 := fwN w.L w.lc w.p
noncomputable def goA (w : VV) (y : Int32) : Int32 := if y < 0 then -1 else if fwA w ≤ y then -1 else gRw w.L w.lc w.p (tN y)
/-- what is kept of a search: not asked, or the answer and its row -/
def GLW (L : Nat → Int32) (lc pe : Nat) (gl : Int32) (gr : Nat → Int32) : Prop := gl = -2 ∨ (gl = fwN L lc pe ∧ ∀ t : Nat, t < 7 → nI t < fwN L lc pe → gr t = gRw L lc pe t)
theorem gl_7 {L : Nat → Int32} {lc pe : Nat} {gl : Int32} {gr : Nat → Int32} (hpe : pe ≤ 7) (hE : endsIn L lc pe) (h : GLW L lc pe gl gr) : gl ≤ 7 := by
  rcases h with h | h
  · rw [h]; decide
  · rw [h.1]; exact (fw_rng hpe hE).1
theorem fc_gl {L : Nat → Int32} {lc pe v : Nat} {al0 gl : Int32} {w0 : Value} {kn gr : Nat → Int32} (hlc : lc ≤ 12) (hpe : pe ≤ 7) (hE : endsIn L lc pe) (h : GLW L lc pe gl gr) : (F_X3_fewestCalls al0 w0 v pe lc gl kn gr L).1 = fwN L lc pe ∧ (F_X3_fewestCalls al0 w0 v pe lc gl kn gr L).2.2.2.2.2 = fwN L lc pe ∧ ∀ t : Nat, t < 7 → nI t < fwN L lc pe → (F_X3_fewestCalls al0 w0 v pe lc gl kn gr L).2.2.2.2.1 t = gRw L lc pe t := by
  unfold F_X3_fewestCalls
  by_cases c : gl = -2
  · rw [if_pos c]
    obtain ⟨a, b⟩ := gfw_cls (v := v) (al0 := al0) (w0 := w0) (kn := kn) (gr := gr) hlc hpe hE
    exact ⟨a, a, b⟩
  · rw [if_neg c]
    obtain ⟨a, b⟩ := h.resolve_left c
    exact ⟨a, a, b⟩
theorem nbs_cong {L L2 : Nat → Int32} {one : Int32} : ∀ n : Nat, (∀ l : Nat, l < n → L (l * 6) = L2 (l * 6) ∧ L (l * 6 + 1) = L2 (l * 6 + 1) ∧ L (l * 6 + 4) = L2 (l * 6 + 4)) → nbs L one n = nbs L2 one n
  | 0, _ => rfl
  | n + 1, h => by
    show nst L one n (nbs L one n) = nst L2 one n (nbs L2 one n)
    rw [nbs_cong n fun l hl => h l (by omega)]
    obtain ⟨a, b, c⟩ := h n (Nat.lt_succ_self n)
    unfold nst
    rw [a, b, c]
section
variable {L L2 : Nat → Int32} {lc pe : Nat}
theorem hln_cong (h : ∀ l : Nat, l < lc → L (l * 6) = L2 (l * 6) ∧ L (l * 6 + 1) = L2 (l * 6 + 1) ∧ L (l * 6 + 4) = L2 (l * 6 + 4)) {held : Int32} : ∀ k : Nat, hln L lc held k = hln L2 lc held k
  | 0 => rfl
  | k + 1 => by
    show (if hasv held (nI k) = 0 then hln L lc held k else hln L lc held k ||| nbs L (nI k) lc) = (if hasv held (nI k) = 0 then hln L2 lc held k else hln L2 lc held k ||| nbs L2 (nI k) lc)
    rw [hln_cong h k, nbs_cong lc h]
theorem hld_cong (h : ∀ l : Nat, l < lc → L (l * 6) = L2 (l * 6) ∧ L (l * 6 + 1) = L2 (l * 6 + 1) ∧ L (l * 6 + 4) = L2 (l * 6 + 4)) : ∀ s : Nat, hld L lc pe s = hld L2 lc pe s
  | 0 => rfl
  | s + 1 => by
    show hln L lc (hld L lc pe s) pe = hln L2 lc (hld L2 lc pe s) pe
    rw [hld_cong h s, hln_cong h]
theorem fw_cong (h : ∀ l : Nat, l < lc → L (l * 6) = L2 (l * 6) ∧ L (l * 6 + 1) = L2 (l * 6 + 1) ∧ L (l * 6 + 4) = L2 (l * 6 + 4)) : fwN L lc pe = fwN L2 lc pe ∧ gRw L lc pe = gRw L2 lc pe := by
  have tr : ∀ l : Nat, l < lc → (UL L l ↔ UL L2 l) ∧ lnA L l = lnA L2 l ∧ lnB L l = lnB L2 l := fun l hl => by
    obtain ⟨a, b, c⟩ := h l hl
    exact ⟨by show b1 (L (l * 6 + 4)) = 0 ↔ b1 (L2 (l * 6 + 4)) = 0; rw [c], congrArg tN a, congrArg tN b⟩
  have e1 : skw L lc pe = skw L2 lc pe := funext fun n => propext ⟨fun q => ⟨sk_tr tr _ _ q.1, fun m hm z => q.2 m hm (sk_tr (sk_trs tr) _ _ z)⟩, fun q => ⟨sk_tr (sk_trs tr) _ _ q.1, fun m hm z => q.2 m hm (sk_tr tr _ _ z)⟩⟩
  have e2 : gN L lc pe = gN L2 lc pe := congrArg (fun p : Nat → Prop => Classical.epsilon p) e1
  have e3 : gRw L lc pe = gRw L2 lc pe := by
    unfold gRw
    rw [e2]
    exact congrArg (fun p : (Nat → Int32) → Prop => Classical.epsilon p) (funext fun g => propext ⟨rww_tr tr _ _ _ _, rww_tr (sk_trs tr) _ _ _ _⟩)
  have e4 : holds L lc pe = holds L2 lc pe := by
    unfold holds
    rw [hld_cong h]
  refine ⟨?_, e3⟩
  unfold fwN
  rw [e4, e2]
theorem glw_cong (h : ∀ l : Nat, l < lc → L (l * 6) = L2 (l * 6) ∧ L (l * 6 + 1) = L2 (l * 6 + 1) ∧ L (l * 6 + 4) = L2 (l * 6 + 4)) {gl : Int32} {gr gr2 : Nat → Int32} (hg : ∀ t : Nat, t < 7 → gr t = gr2 t) (q : GLW L lc pe gl gr) : GLW L2 lc pe gl gr2 := by
  obtain ⟨e1, e2⟩ := fw_cong (pe := pe) h
  rcases q with q | ⟨q1, q2⟩
  · exact Or.inl q
  · refine Or.inr ⟨q1.trans e1, fun t ht z => ?_⟩
    rw [← hg t ht, ← e2]
    exact q2 t ht (by rw [e1]; exact z)
end

/-! a plan judged: what both sides come to -/
def ctB (f : Nat → Bool) : Nat → Nat
  | 0 => 0
  | m + 1 => ctB f m + if f m = true then 1 else 0
theorem ctB_le {f g : Nat → Bool} : ∀ m : Nat, (∀ s : Nat, s < m → f s = true → g s = true) → ctB f m ≤ ctB g m
  | 0, _ => Nat.le_refl _
  | m + 1, h => by
    have ih := ctB_le (f := f) (g := g) m (fun s hs => h s (by omega))
    show ctB f m + (if f m = true then 1 else 0) ≤ ctB g m + (if g m = true then 1 else 0)
    by_cases e : f m = true
    · rw [if_pos e, if_pos (h m (by omega) e)]; omega
    · rw [if_neg e]; omega
theorem ctB_cong {f g : Nat → Bool} {m : Nat} (h : ∀ s : Nat, s < m → f s = g s) : ctB f m = ctB g m :=
  Nat.le_antisymm (ctB_le m fun s hs e => by rw [← h s hs]; exact e) (ctB_le m fun s hs e => by rw [h s hs]; exact e)
theorem ctB_mono {f : Nat → Bool} {m : Nat} : ∀ n : Nat, m ≤ n → ctB f m ≤ ctB f n
  | 0, h => by
    have : m = 0 := by omega
    subst this
    exact Nat.le_refl _
  | n + 1, h => by
    by_cases e : m = n + 1
    · subst e; exact Nat.le_refl _
    · have ih := ctB_mono (f := f) n (show m ≤ n by omega)
      show _ ≤ ctB f n + _
      omega
theorem ctB_lt {f : Nat → Bool} {m n s : Nat} (h1 : m ≤ s) (h2 : s < n) (h3 : f s = true) : ctB f m + 1 ≤ ctB f n := by
  have a := ctB_mono (f := f) s h1
  have b := ctB_mono (f := f) n (show s + 1 ≤ n from h2)
  have c : ctB f (s + 1) = ctB f s + 1 := by
    show ctB f s + (if f s = true then 1 else 0) = _
    rw [if_pos h3]
  omega
theorem ctB_top {f : Nat → Bool} : ∀ m : Nat, ctB f m ≤ m
  | 0 => Nat.le_refl _
  | m + 1 => by
    have ih := ctB_top (f := f) m
    show ctB f m + (if f m = true then 1 else 0) ≤ m + 1
    split <;> omega
/-- how many calls come ahead of an hour; how many of an hour come ahead of a call -/
def cl (h : Nat → Nat) (c H : Nat) : Nat := ctB (fun s => decide (h s < H)) c
def ce (h : Nat → Nat) (H t : Nat) : Nat := ctB (fun s => decide (h s = H)) t
/-- the place of a call, hour by hour -/
def rk (h : Nat → Nat) (c t : Nat) : Nat := cl h c (h t) + ce h (h t) t
theorem cl_succ {h : Nat → Nat} {H : Nat} : ∀ c : Nat, cl h c (H + 1) = cl h c H + ce h H c
  | 0 => rfl
  | c + 1 => by
    have ih := cl_succ (h := h) (H := H) c
    show cl h c (H + 1) + (if decide (h c < H + 1) = true then 1 else 0) = (cl h c H + (if decide (h c < H) = true then 1 else 0)) + (ce h H c + (if decide (h c = H) = true then 1 else 0))
    rw [ih]
    by_cases e1 : h c < H
    · rw [if_pos (decide_eq_true (show h c < H + 1 by omega)), if_pos (decide_eq_true e1), if_neg (by rw [decide_eq_true_eq]; omega)]; omega
    · by_cases e2 : h c = H
      · rw [if_pos (decide_eq_true (show h c < H + 1 by omega)), if_neg (by rw [decide_eq_true_eq]; omega), if_pos (decide_eq_true e2)]; omega
      · rw [if_neg (by rw [decide_eq_true_eq]; omega), if_neg (by rw [decide_eq_true_eq]; omega), if_neg (by rw [decide_eq_true_eq]; omega)]; omega
theorem cl_mono {h : Nat → Nat} {c H H' : Nat} (e : H ≤ H') : cl h c H ≤ cl h c H' := ctB_le c fun s _ q => by
  have := of_decide_eq_true q
  exact decide_eq_true (by omega)
theorem rk_lt {h : Nat → Nat} {c t : Nat} (ht : t < c) : rk h c t < cl h c (h t + 1) := by
  have a := ctB_lt (f := fun s => decide (h s = h t)) (Nat.le_refl t) ht (decide_eq_true rfl)
  have b := cl_succ (h := h) (H := h t) c
  unfold rk
  unfold ce at *
  omega
/-- the hour of a call -/
def hn (w : PP) (t : Nat) : Nat := tN (w.h t)
/-- the order of a plan's calls is hour by hour -/
def ORD (w : PP) : Prop := ∀ i : Nat, i < w.c → ∃ t : Nat, t < w.c ∧ w.o i = nI t ∧ rk (hn w) w.c t = i
theorem ord_zero {i : Nat} : ORD (pZero i) := fun _ h => absurd h (Nat.not_lt_zero _)
/-- a call put into the order -/
theorem oin_eq {c P : Nat} {h : Nat → Int32} {ho : Int32} : ∀ (j : Nat) (o : Nat → Int32), P ≤ j → (∀ i : Nat, i < j → (h (tN (o i)) ≤ ho ↔ i < P)) → ∀ i : Nat, oin c h ho j o i = if i = P then nI c else (if P < i ∧ i ≤ j then o (i - 1) else o i)
  | 0, o, hP, _, i => by
    have : P = 0 := by omega
    subst this
    show upd o 0 (nI c) i = _
    by_cases e : i = 0
    · rw [e, upd_eq, if_pos rfl]
    · rw [upd_ne e, if_neg e, if_neg (by omega)]
  | j + 1, o, hP, hh, i => by
    rw [oin]
    by_cases e : h (tN (o j)) ≤ ho
    · rw [if_pos e]
      have : P = j + 1 := by have := (hh j (by omega)).mp e; omega
      subst this
      by_cases e2 : i = j + 1
      · rw [e2, upd_eq, if_pos rfl]
      · rw [upd_ne e2, if_neg e2, if_neg (by omega)]
    · rw [if_neg e]
      have hPj : P ≤ j := Nat.not_lt.mp fun q => e ((hh j (by omega)).mpr q)
      rw [oin_eq j (upd o (j + 1) (o j)) hPj (fun i hi => by rw [upd_ne (show ¬ i = j + 1 by omega)]; exact hh i (by omega)) i]
      by_cases e1 : i = P
      · rw [if_pos e1, if_pos e1]
      · rw [if_neg e1, if_neg e1]
        by_cases e2 : P < i ∧ i ≤ j
        · rw [if_pos e2, if_pos (by omega), upd_ne (by omega)]
        · rw [if_neg e2]
          by_cases e3 : i = j + 1
          · subst e3
            rw [upd_eq, if_pos (by omega), Nat.add_sub_cancel]
          · rw [upd_ne e3, if_neg (by omega)]
theorem hn_of {p : Nat} {w : PP} (h : PWF p w) {t : Nat} (ht : t < w.c) : w.h t = nI (hn w t) ∧ 1 ≤ hn w t ∧ hn w t ≤ 24 := hr_at (h.2.2 t ht).1
theorem ord_call {p : Nat} {w : PP} {ho ki on ot : Int32} (hw : PWF p w) (h : ORD w) (hf : ¬ cFit w.c p ho ki on ot = 0) : ORD (pOf w ho ki on ot) := by
  obtain ⟨f1, f2, f3, f4, f5, f6⟩ := fit_of hw.1 hf
  obtain ⟨e0, e1, e2⟩ := hr_at f1
  have hold : ∀ t : Nat, t < w.c → hn (pOf w ho ki on ot) t = hn w t := fun t ht => by
    show tN (upd w.h w.c ho t) = tN (w.h t)
    rw [upd_ne (by omega)]
  have hnew : hn (pOf w ho ki on ot) w.c = tN ho := by
    show tN (upd w.h w.c ho w.c) = tN ho
    rw [upd_eq]
  have hcl : ∀ H : Nat, cl (hn (pOf w ho ki on ot)) (w.c + 1) H = cl (hn w) w.c H + if tN ho < H then 1 else 0 := fun H => by
    show ctB (fun s => decide (hn (pOf w ho ki on ot) s < H)) w.c + (if decide (hn (pOf w ho ki on ot) w.c < H) = true then 1 else 0) = _
    rw [hnew, ctB_cong (g := fun s => decide (hn w s < H)) (fun s hs => by rw [hold s hs])]
    by_cases q : tN ho < H
    · rw [if_pos (decide_eq_true q), if_pos q]; rfl
    · rw [if_neg (by rw [decide_eq_true_eq]; exact q), if_neg q]; rfl
  have hce : ∀ H t : Nat, t ≤ w.c → ce (hn (pOf w ho ki on ot)) H t = ce (hn w) H t := fun H t ht => ctB_cong fun s hs => by rw [hold s (by omega)]
  have rold : ∀ t : Nat, t < w.c → rk (hn (pOf w ho ki on ot)) (w.c + 1) t = rk (hn w) w.c t + if tN ho < hn w t then 1 else 0 := fun t ht => by
    unfold rk
    rw [hold t ht, hcl, hce _ t (by omega)]
    omega
  have rnew : rk (hn (pOf w ho ki on ot)) (w.c + 1) w.c = cl (hn w) w.c (tN ho + 1) := by
    unfold rk
    rw [hnew, hcl, hce _ w.c (Nat.le_refl _), if_neg (Nat.lt_irrefl _), cl_succ]
    omega
  have hP : cl (hn w) w.c (tN ho + 1) ≤ w.c := ctB_top w.c
  have lo : ∀ t : Nat, t < w.c → hn w t ≤ tN ho → rk (hn w) w.c t < cl (hn w) w.c (tN ho + 1) := fun t ht q => Nat.lt_of_lt_of_le (rk_lt ht) (cl_mono (by omega))
  have hi : ∀ t : Nat, t < w.c → tN ho < hn w t → cl (hn w) w.c (tN ho + 1) ≤ rk (hn w) w.c t := fun t ht q => Nat.le_trans (cl_mono (show tN ho + 1 ≤ hn w t from q)) (Nat.le_add_right _ _)
  have hc40 := hw.1
  have test : ∀ i : Nat, i < w.c → (upd w.h w.c ho (tN (w.o i)) ≤ ho ↔ i < cl (hn w) w.c (tN ho + 1)) := fun i hi' => by
    obtain ⟨t, ht, q1, q2⟩ := h i hi'
    obtain ⟨r0, r1, r2⟩ := hn_of hw ht
    rw [q1, tN_nI (by omega), upd_ne (by omega), r0, e0, nI_leI (by omega) (by omega), tN_nI (by omega)]
    constructor
    · intro q; rw [← q2]; exact lo t ht q
    · intro q
      refine Nat.not_lt.mp fun l => ?_
      have := hi t ht l
      omega
  intro i hi9
  have hi9 : i < w.c + 1 := hi9
  have hoin : (pOf w ho ki on ot).o i = _ := oin_eq (c := w.c) (P := cl (hn w) w.c (tN ho + 1)) w.c w.o hP test i
  rw [hoin]
  by_cases q1 : i = cl (hn w) w.c (tN ho + 1)
  · rw [if_pos q1]
    exact ⟨w.c, Nat.lt_succ_self _, rfl, rnew.trans q1.symm⟩
  · rw [if_neg q1]
    by_cases q2 : cl (hn w) w.c (tN ho + 1) < i
    · rw [if_pos ⟨q2, by omega⟩]
      obtain ⟨t, ht, r1, r2⟩ := h (i - 1) (by omega)
      refine ⟨t, show t < w.c + 1 by omega, r1, ?_⟩
      show rk (hn (pOf w ho ki on ot)) (w.c + 1) t = i
      rw [rold t ht]
      by_cases q3 : tN ho < hn w t
      · rw [if_pos q3]; omega
      · have := lo t ht (by omega); omega
    · rw [if_neg (fun q => q2 q.1)]
      obtain ⟨t, ht, r1, r2⟩ := h i (by omega)
      refine ⟨t, show t < w.c + 1 by omega, r1, ?_⟩
      show rk (hn (pOf w ho ki on ot)) (w.c + 1) t = i
      rw [rold t ht]
      by_cases q3 : tN ho < hn w t
      · have := hi t ht q3; omega
      · rw [if_neg q3]; omega
/-- whom the caller gets on the line -/
def rcT (K : Nat → Int32) (w : PP) (t : Nat) : Int32 := (if w.k t = 3 then (-1 : Int32) else (1 : Int32) <<< (w.b t &&& 31)) &&& F_X10_callable K (tN (w.a t)) (tN (w.h t))
def caT (w : PP) (t : Nat) : Int32 := nI (tN (w.a t))
/-- who takes part already in an hour, ahead of a call -/
def bz (K : Nat → Int32) (w : PP) (H : Nat) : Nat → Int32
  | 0 => 0
  | m + 1 => if hn w m = H then (if F_X4_verdictOf (caT w m) (rcT K w m) (bz K w H m) = 0 then bz K w H m ||| (((1 : Int32) <<< (caT w m &&& 31)) ||| rcT K w m) else bz K w H m) else bz K w H m
/-- whether a call is lawful -/
def vdT (K : Nat → Int32) (w : PP) (t : Nat) : Int32 := F_X4_verdictOf (caT w t) (rcT K w t) (bz K w (hn w t) t)
/-! the reference -/
/-- a line's ends are two -/
def NL0 (w : VV) : Prop := ∀ j : Nat, j < w.lc → ¬ lnA w.L j = lnB w.L j
/-- only people of the valley know news at first -/
def KNB (w : VV) : Prop := ∀ j i : Nat, j < 4 → i < 32 → bt (w.kn j) i = true → i < w.p
def NLP (w : VV) : Prop := NL0 w ∧ KNB w
theorem and1_1 {y : Int32} : y &&& 1 = 1 ↔ bt y 0 = true := by
  constructor
  · intro h
    have h1 : bt (y &&& 1) 0 = true := by rw [h]; decide
    rw [b_and, b_one 0 (by omega)] at h1
    simpa using h1
  · intro h
    refine b_ext fun i hi => ?_
    rw [b_and, b_one i hi]
    by_cases e : i = 0
    · subst e; rw [h]; rfl
    · simp [e]
section
variable {F G : Nat → Nat → Int32} {i : Nat} {v : VV} {w : PP}
end
/-- what always holds of valleys and plans -/
def PLX (nv : Nat) (V : Nat → VV) (np : Nat) (P : Nat → PP) : Prop := PLW nv V np P ∧ (∀ j : Nat, j < np → ORD (P j)) ∧ ∀ i : Nat, i < nv → NLP (V i)

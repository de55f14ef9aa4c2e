/-! a plan judged: what both sides come to -/
def ctB (f : Nat → Bool) : Nat → Nat
  | 0 => 0
  | m + 1 => ctB f m + if f m = true then 1 else 0
theorem ctB_le {f g : Nat → Bool} : ∀ m : Nat, (∀ s : Nat, s < m → f s = true → g s = true) → ctB f m ≤ ctB g m
  | 0, _ => Nat.le_refl _
  | m + 1, h => by
    have ih := ctB_le (f := f) (g := g) m (fun s hs => h s (by omega))
    show ctB f m + (if f m = true then 1 else 0) ≤ ctB g m + (if g m = true then 1 else 0)
    by_cases e : f m = true
    · rw [if_pos e, if_pos (h m (by omega) e)]; omega
    · rw [if_neg e]; omega
theorem ctB_cong {f g : Nat → Bool} {m : Nat} (h : ∀ s : Nat, s < m → f s = g s) : ctB f m = ctB g m :=
  Nat.le_antisymm (ctB_le m fun s hs e => by rw [← h s hs]; exact e) (ctB_le m fun s hs e => by rw [h s hs]; exact e)
theorem ctB_mono {f : Nat → Bool} {m : Nat} : ∀ n : Nat, m ≤ n → ctB f m ≤ ctB f n
  | 0, h => by
    have : m = 0 := by omega
    subst this
    exact Nat.le_refl _
  | n + 1, h => by
    by_cases e : m = n + 1
    · subst e; exact Nat.le_refl _
    · have ih := ctB_mono (f := f) n (show m ≤ n by omega)
      show _ ≤ ctB f n + _
      omega
theorem ctB_lt {f : Nat → Bool} {m n s : Nat} (h1 : m ≤ s) (h2 : s < n) (h3 : f s = true) : ctB f m + 1 ≤ ctB f n := by
  have a := ctB_mono (f := f) s h1
  have b := ctB_mono (f := f) n (show s + 1 ≤ n from h2)
  have c : ctB f (s + 1) = ctB f s + 1 := by
    show ctB f s + (if f s = true then 1 else 0) = _
    rw [if_pos h3]
  omega
theorem ctB_top {f : Nat → Bool} : ∀ m : Nat, ctB f m ≤ m
  | 0 => Nat.le_refl _
  | m + 1 => by
    have ih := ctB_top (f := f) m
    show ctB f m + (if f m = true then 1 else 0) ≤ m + 1
    split <;> omega
/-- how many calls come ahead of an hour; how many of an hour come ahead of a call -/
def cl (h : Nat → Nat) (c H : Nat) : Nat := ctB (fun s => decide (h s < H)) c
def ce (h : Nat → Nat) (H t : Nat) : Nat := ctB (fun s => decide (h s = H)) t
/-- the place of a call, hour by hour -/
def rk (h : Nat → Nat) (c t : Nat) : Nat := cl h c (h t) + ce h (h t) t
theorem cl_succ {h : Nat → Nat} {H : Nat} : ∀ c : Nat, cl h c (H + 1) = cl h c H + ce h H c
  | 0 => rfl
  | c + 1 => by
    have ih := cl_succ (h := h) (H := H) c
    show cl h c (H + 1) + (if decide (h c < H + 1) = true then 1 else 0) = (cl h c H + (if decide (h c < H) = true then 1 else 0)) + (ce h H c + (if decide (h c = H) = true then 1 else 0))
    rw [ih]
    by_cases e1 : h c < H
    · rw [if_pos (decide_eq_true (show h c < H + 1 by omega)), if_pos (decide_eq_true e1), if_neg (by rw [decide_eq_true_eq]; omega)]; omega
    · by_cases e2 : h c = H
      · rw [if_pos (decide_eq_true (show h c < H + 1 by omega)), if_neg (by rw [decide_eq_true_eq]; omega), if_pos (decide_eq_true e2)]; omega
      · rw [if_neg (by rw [decide_eq_true_eq]; omega), if_neg (by rw [decide_eq_true_eq]; omega), if_neg (by rw [decide_eq_true_eq]; omega)]; omega
theorem cl_mono {h : Nat → Nat} {c H H' : Nat} (e : H ≤ H') : cl h c H ≤ cl h c H' := ctB_le c fun s _ q => by
  have := of_decide_eq_true q
  exact decide_eq_true (by omega)
theorem rk_lt {h : Nat → Nat} {c t : Nat} (ht : t < c) : rk h c t < cl h c (h t + 1) := by
  have a := ctB_lt (f := fun s => decide (h s = h t)) (Nat.le_refl t) ht (decide_eq_true rfl)
  have b := cl_succ (h := h) (H := h t) c
  unfold rk
  unfold ce at *
  omega
theorem rk_top {h : Nat → Nat} {c t : Nat} (ht : t < c) : rk h c t < c := Nat.lt_of_lt_of_le (rk_lt ht) (ctB_top c)
theorem rk_hour {h : Nat → Nat} {c s t : Nat} (hs : s < c) (e : h s < h t) : rk h c s < rk h c t := by
  have a := rk_lt (h := h) hs
  have b := cl_mono (h := h) (c := c) (show h s + 1 ≤ h t from e)
  have d : cl h c (h t) ≤ rk h c t := Nat.le_add_right _ _
  omega
theorem rk_same {h : Nat → Nat} {c s t : Nat} (e : h s = h t) (l : s < t) : rk h c s < rk h c t := by
  have a := ctB_lt (f := fun u => decide (h u = h t)) (Nat.le_refl s) l (decide_eq_true e)
  unfold rk ce
  rw [e]
  omega
theorem rk_inj {h : Nat → Nat} {c s t : Nat} (hs : s < c) (ht : t < c) (e : rk h c s = rk h c t) : s = t := by
  rcases Nat.lt_trichotomy (h s) (h t) with q | q | q
  · have := rk_hour (c := c) hs q; omega
  · rcases Nat.lt_trichotomy s t with l | l | l
    · have := rk_same (c := c) q l; omega
    · exact l
    · have := rk_same (c := c) q.symm l; omega
  · have := rk_hour (c := c) ht q; omega
/-- the hour of a call -/
def hn (w : PP) (t : Nat) : Nat := tN (w.h t)
/-- the order of a plan's calls is hour by hour -/
def ORD (w : PP) : Prop := ∀ i : Nat, i < w.c → ∃ t : Nat, t < w.c ∧ w.o i = nI t ∧ rk (hn w) w.c t = i
theorem ord_at {w : PP} (h : ORD w) {t : Nat} (ht : t < w.c) : w.o (rk (hn w) w.c t) = nI t := by
  obtain ⟨s, hs, e1, e2⟩ := h _ (rk_top (h := hn w) ht)
  rw [rk_inj hs ht e2] at e1
  exact e1
theorem ord_zero {i : Nat} : ORD (pZero i) := fun _ h => absurd h (Nat.not_lt_zero _)
/-- a call put into the order -/
theorem oin_eq {c P : Nat} {h : Nat → Int32} {ho : Int32} : ∀ (j : Nat) (o : Nat → Int32), P ≤ j → (∀ i : Nat, i < j → (h (tN (o i)) ≤ ho ↔ i < P)) → ∀ i : Nat, oin c h ho j o i = if i = P then nI c else (if P < i ∧ i ≤ j then o (i - 1) else o i)
  | 0, o, hP, _, i => by
    have : P = 0 := by omega
    subst this
    show upd o 0 (nI c) i = _
    by_cases e : i = 0
    · rw [e, upd_eq, if_pos rfl]
    · rw [upd_ne e, if_neg e, if_neg (by omega)]
  | j + 1, o, hP, hh, i => by
    rw [oin]
    by_cases e : h (tN (o j)) ≤ ho
    · rw [if_pos e]
      have : P = j + 1 := by have := (hh j (by omega)).mp e; omega
      subst this
      by_cases e2 : i = j + 1
      · rw [e2, upd_eq, if_pos rfl]
      · rw [upd_ne e2, if_neg e2, if_neg (by omega)]
    · rw [if_neg e]
      have hPj : P ≤ j := Nat.not_lt.mp fun q => e ((hh j (by omega)).mpr q)
      rw [oin_eq j (upd o (j + 1) (o j)) hPj (fun i hi => by rw [upd_ne (show ¬ i = j + 1 by omega)]; exact hh i (by omega)) i]
      by_cases e1 : i = P
      · rw [if_pos e1, if_pos e1]
      · rw [if_neg e1, if_neg e1]
        by_cases e2 : P < i ∧ i ≤ j
        · rw [if_pos e2, if_pos (by omega), upd_ne (by omega)]
        · rw [if_neg e2]
          by_cases e3 : i = j + 1
          · subst e3
            rw [upd_eq, if_pos (by omega), Nat.add_sub_cancel]
          · rw [upd_ne e3, if_neg (by omega)]
theorem hn_of {p : Nat} {w : PP} (h : PWF p w) {t : Nat} (ht : t < w.c) : w.h t = nI (hn w t) ∧ 1 ≤ hn w t ∧ hn w t ≤ 24 := hr_at (h.2.2 t ht).1
theorem ord_call {p : Nat} {w : PP} {ho ki on ot : Int32} (hw : PWF p w) (h : ORD w) (hf : ¬ cFit w.c p ho ki on ot = 0) : ORD (pOf w ho ki on ot) := by
  obtain ⟨f1, f2, f3, f4, f5, f6⟩ := fit_of hw.1 hf
  obtain ⟨e0, e1, e2⟩ := hr_at f1
  have hold : ∀ t : Nat, t < w.c → hn (pOf w ho ki on ot) t = hn w t := fun t ht => by
    show tN (upd w.h w.c ho t) = tN (w.h t)
    rw [upd_ne (by omega)]
  have hnew : hn (pOf w ho ki on ot) w.c = tN ho := by
    show tN (upd w.h w.c ho w.c) = tN ho
    rw [upd_eq]
  have hcl : ∀ H : Nat, cl (hn (pOf w ho ki on ot)) (w.c + 1) H = cl (hn w) w.c H + if tN ho < H then 1 else 0 := fun H => by
    show ctB (fun s => decide (hn (pOf w ho ki on ot) s < H)) w.c + (if decide (hn (pOf w ho ki on ot) w.c < H) = true then 1 else 0) = _
    rw [hnew, ctB_cong (g := fun s => decide (hn w s < H)) (fun s hs => by rw [hold s hs])]
    by_cases q : tN ho < H
    · rw [if_pos (decide_eq_true q), if_pos q]; rfl
    · rw [if_neg (by rw [decide_eq_true_eq]; exact q), if_neg q]; rfl
  have hce : ∀ H t : Nat, t ≤ w.c → ce (hn (pOf w ho ki on ot)) H t = ce (hn w) H t := fun H t ht => ctB_cong fun s hs => by rw [hold s (by omega)]
  have rold : ∀ t : Nat, t < w.c → rk (hn (pOf w ho ki on ot)) (w.c + 1) t = rk (hn w) w.c t + if tN ho < hn w t then 1 else 0 := fun t ht => by
    unfold rk
    rw [hold t ht, hcl, hce _ t (by omega)]
    omega
  have rnew : rk (hn (pOf w ho ki on ot)) (w.c + 1) w.c = cl (hn w) w.c (tN ho + 1) := by
    unfold rk
    rw [hnew, hcl, hce _ w.c (Nat.le_refl _), if_neg (Nat.lt_irrefl _), cl_succ]
    omega
  have hP : cl (hn w) w.c (tN ho + 1) ≤ w.c := ctB_top w.c
  have lo : ∀ t : Nat, t < w.c → hn w t ≤ tN ho → rk (hn w) w.c t < cl (hn w) w.c (tN ho + 1) := fun t ht q => Nat.lt_of_lt_of_le (rk_lt ht) (cl_mono (by omega))
  have hi : ∀ t : Nat, t < w.c → tN ho < hn w t → cl (hn w) w.c (tN ho + 1) ≤ rk (hn w) w.c t := fun t ht q => Nat.le_trans (cl_mono (show tN ho + 1 ≤ hn w t from q)) (Nat.le_add_right _ _)
  have hc40 := hw.1
  have test : ∀ i : Nat, i < w.c → (upd w.h w.c ho (tN (w.o i)) ≤ ho ↔ i < cl (hn w) w.c (tN ho + 1)) := fun i hi' => by
    obtain ⟨t, ht, q1, q2⟩ := h i hi'
    obtain ⟨r0, r1, r2⟩ := hn_of hw ht
    rw [q1, tN_nI (by omega), upd_ne (by omega), r0, e0, nI_leI (by omega) (by omega), tN_nI (by omega)]
    constructor
    · intro q; rw [← q2]; exact lo t ht q
    · intro q
      refine Nat.not_lt.mp fun l => ?_
      have := hi t ht l
      omega
  intro i hi9
  have hi9 : i < w.c + 1 := hi9
  have hoin : (pOf w ho ki on ot).o i = _ := oin_eq (c := w.c) (P := cl (hn w) w.c (tN ho + 1)) w.c w.o hP test i
  rw [hoin]
  by_cases q1 : i = cl (hn w) w.c (tN ho + 1)
  · rw [if_pos q1]
    exact ⟨w.c, Nat.lt_succ_self _, rfl, rnew.trans q1.symm⟩
  · rw [if_neg q1]
    by_cases q2 : cl (hn w) w.c (tN ho + 1) < i
    · rw [if_pos ⟨q2, by omega⟩]
      obtain ⟨t, ht, r1, r2⟩ := h (i - 1) (by omega)
      refine ⟨t, show t < w.c + 1 by omega, r1, ?_⟩
      show rk (hn (pOf w ho ki on ot)) (w.c + 1) t = i
      rw [rold t ht]
      by_cases q3 : tN ho < hn w t
      · rw [if_pos q3]; omega
      · have := lo t ht (by omega); omega
    · rw [if_neg (fun q => q2 q.1)]
      obtain ⟨t, ht, r1, r2⟩ := h i (by omega)
      refine ⟨t, show t < w.c + 1 by omega, r1, ?_⟩
      show rk (hn (pOf w ho ki on ot)) (w.c + 1) t = i
      rw [rold t ht]
      by_cases q3 : tN ho < hn w t
      · have := hi t ht q3; omega
      · rw [if_neg q3]; omega
/-- whom the caller gets on the line -/
def rcT (K : Nat → Int32) (w : PP) (t : Nat) : Int32 := (if w.k t = 3 then (-1 : Int32) else (1 : Int32) <<< (w.b t &&& 31)) &&& F_X10_callable K (tN (w.a t)) (tN (w.h t))
def caT (w : PP) (t : Nat) : Int32 := nI (tN (w.a t))
/-- who takes part already in an hour, ahead of a call -/
def bz (K : Nat → Int32) (w : PP) (H : Nat) : Nat → Int32
  | 0 => 0
  | m + 1 => if hn w m = H then (if F_X4_verdictOf (caT w m) (rcT K w m) (bz K w H m) = 0 then bz K w H m ||| (((1 : Int32) <<< (caT w m &&& 31)) ||| rcT K w m) else bz K w H m) else bz K w H m
/-- whether a call is lawful -/
def vdT (K : Nat → Int32) (w : PP) (t : Nat) : Int32 := F_X4_verdictOf (caT w t) (rcT K w t) (bz K w (hn w t) t)
theorem bz_skip {K : Nat → Int32} {w : PP} {H s : Nat} : ∀ d : Nat, (∀ u : Nat, s ≤ u → u < s + d → ¬ hn w u = H) → bz K w H (s + d) = bz K w H s
  | 0, _ => rfl
  | d + 1, h => by
    show bz K w H (s + d + 1) = _
    rw [bz, if_neg (h (s + d) (by omega) (by omega))]
    exact bz_skip d fun u h1 h2 => h u h1 (by omega)
theorem cls_step {K : Nat → Int32} {w : PP} {j : Nat} {bu x : Int32} {W R : Nat → Int32} : L1_X4_judges w.h w.k w.a w.b w.o K j bu x W R = ((if F_X4_verdictOf (caT w (tN (w.o j))) (rcT K w (tN (w.o j))) (if w.h (tN (w.o j)) = x then bu else 0) = 0 then (if w.h (tN (w.o j)) = x then bu else 0) ||| (((1 : Int32) <<< (caT w (tN (w.o j)) &&& 31)) ||| rcT K w (tN (w.o j))) else (if w.h (tN (w.o j)) = x then bu else 0)), w.h (tN (w.o j)), upd W (tN (w.o j)) (F_X4_verdictOf (caT w (tN (w.o j))) (rcT K w (tN (w.o j))) (if w.h (tN (w.o j)) = x then bu else 0)), upd R (tN (w.o j)) (rcT K w (tN (w.o j)))) := by
  unfold L1_X4_judges caT rcT
  generalize tN (w.o j) = t
  simp only [upd_eq]
  by_cases h1 : w.h t = x
  · subst h1
    rw [if_pos rfl, if_pos rfl]
    by_cases h2 : w.k t = 3
    · rw [if_pos h2, if_pos h2]
      split <;> rfl
    · rw [if_neg h2, if_neg h2]
      split <;> rfl
  · rw [if_neg h1, if_neg h1]
    by_cases h2 : w.k t = 3
    · rw [if_pos h2, if_pos h2]
      split <;> rfl
    · rw [if_neg h2, if_neg h2]
      split <;> rfl
/-- the class's judging -/
theorem cls_judge {K : Nat → Int32} {p : Nat} {w : PP} {W R : Nat → Int32} (hw : PWF p w) (ho : ORD w) : ∀ i : Nat, i ≤ w.c → (∀ t : Nat, t < w.c → rk (hn w) w.c t < i → (L1_X4_judge w.h w.k w.a w.b w.o K 0 0 W R i).2.2.1 t = vdT K w t ∧ (L1_X4_judge w.h w.k w.a w.b w.o K 0 0 W R i).2.2.2 t = rcT K w t) ∧ (i = 0 → (L1_X4_judge w.h w.k w.a w.b w.o K 0 0 W R i).2.1 = 0) ∧ ∀ s : Nat, s < w.c → rk (hn w) w.c s + 1 = i → (L1_X4_judge w.h w.k w.a w.b w.o K 0 0 W R i).2.1 = w.h s ∧ (L1_X4_judge w.h w.k w.a w.b w.o K 0 0 W R i).1 = bz K w (hn w s) (s + 1)
  | 0, _ => ⟨fun t _ h => absurd h (Nat.not_lt_zero _), fun _ => rfl, fun s _ h => absurd h (by omega)⟩
  | i + 1, hi => by
    obtain ⟨ih1, ih2, ih3⟩ := cls_judge (K := K) (W := W) (R := R) hw ho i (by omega)
    have hc40 := hw.1
    obtain ⟨t, ht, q1, q2⟩ := ho i (by omega)
    obtain ⟨r0, r1, r2⟩ := hn_of hw ht
    have hot : tN (w.o i) = t := by rw [q1, tN_nI (by omega)]
    have hst : L1_X4_judge w.h w.k w.a w.b w.o K 0 0 W R (i + 1) = _ := cls_step (K := K) (w := w) (j := i) (bu := (L1_X4_judge w.h w.k w.a w.b w.o K 0 0 W R i).1) (x := (L1_X4_judge w.h w.k w.a w.b w.o K 0 0 W R i).2.1) (W := (L1_X4_judge w.h w.k w.a w.b w.o K 0 0 W R i).2.2.1) (R := (L1_X4_judge w.h w.k w.a w.b w.o K 0 0 W R i).2.2.2)
    have hb : (if w.h t = (L1_X4_judge w.h w.k w.a w.b w.o K 0 0 W R i).2.1 then (L1_X4_judge w.h w.k w.a w.b w.o K 0 0 W R i).1 else 0) = bz K w (hn w t) t := by
      have none : (∀ u : Nat, u < t → ¬ hn w u = hn w t) → bz K w (hn w t) t = 0 := fun h => by
        have := bz_skip (K := K) (w := w) (H := hn w t) (s := 0) t fun u _ h2 => h u (by omega)
        rw [Nat.zero_add] at this
        exact this
      by_cases h0 : i = 0
      · rw [ih2 h0, if_neg (fun q => by rw [q] at r0; have := congrArg tN r0; rw [tN_nI (by omega), show tN (0 : Int32) = 0 by decide] at this; omega)]
        refine (none fun u hu q => ?_).symm
        have := rk_same (c := w.c) q hu
        omega
      · obtain ⟨s, hs, s1, s2⟩ := ho (i - 1) (by omega)
        obtain ⟨g1, g2⟩ := ih3 s hs (by omega)
        obtain ⟨p0, p1, p2⟩ := hn_of hw hs
        rw [g1, g2]
        have eh : w.h t = w.h s ↔ hn w t = hn w s := ⟨fun q => by unfold hn; rw [q], fun q => by rw [r0, p0, q]⟩
        by_cases h1 : hn w t = hn w s
        · rw [if_pos (eh.mpr h1)]
          have hst : s < t := by
            rcases Nat.lt_trichotomy s t with l | l | l
            · exact l
            · subst l; omega
            · have := rk_same (c := w.c) h1 l; omega
          have := bz_skip (K := K) (w := w) (H := hn w t) (s := s + 1) (t - (s + 1)) fun u h2 h3 q => by
            have a1 := rk_same (c := w.c) (show hn w s = hn w u by omega) (show s < u by omega)
            have a2 := rk_same (c := w.c) q (show u < t by omega)
            omega
          rw [show s + 1 + (t - (s + 1)) = t by omega] at this
          rw [this, h1]
        · rw [if_neg (fun q => h1 (eh.mp q))]
          refine (none fun u hu q => ?_).symm
          have a1 := rk_same (c := w.c) q hu
          rcases Nat.lt_trichotomy (hn w s) (hn w t) with l | l | l
          · have := rk_hour (c := w.c) hs (show hn w s < hn w u by omega)
            omega
          · exact h1 l.symm
          · have := rk_hour (c := w.c) ht l
            omega
    rw [hot, hb] at hst
    rw [hst]
    refine ⟨fun t' ht' hr => ?_, fun h => absurd h (Nat.succ_ne_zero _), fun s hs hr => ?_⟩
    · show upd _ t (vdT K w t) t' = _ ∧ upd _ t (rcT K w t) t' = _
      by_cases e : t' = t
      · subst e; rw [upd_eq, upd_eq]; exact ⟨rfl, rfl⟩
      · rw [upd_ne e, upd_ne e]
        refine ih1 t' ht' ?_
        rcases Nat.lt_trichotomy (rk (hn w) w.c t') i with l | l | l
        · exact l
        · exact absurd (rk_inj (h := hn w) (c := w.c) ht' ht (by omega)) e
        · omega
    · have e : s = t := rk_inj (h := hn w) (c := w.c) hs ht (by omega)
      subst e
      refine ⟨rfl, ?_⟩
      show _ = bz K w (hn w s) (s + 1)
      rw [bz, if_pos rfl]
theorem clsJ {K : Nat → Int32} {p : Nat} {w : PP} {W R : Nat → Int32} (hw : PWF p w) (ho : ORD w) {t : Nat} (ht : t < w.c) : (F_X4_judge w.c w.h w.k w.a w.b w.o W R K).1 t = vdT K w t ∧ (F_X4_judge w.c w.h w.k w.a w.b w.o W R K).2 t = rcT K w t :=
  (cls_judge (K := K) (W := W) (R := R) hw ho w.c (Nat.le_refl _)).1 t ht (rk_top ht)
/-! the reference -/
/-- a line's ends are two -/
def NL0 (w : VV) : Prop := ∀ j : Nat, j < w.lc → ¬ lnA w.L j = lnB w.L j
/-- only people of the valley know news at first -/
def KNB (w : VV) : Prop := ∀ j i : Nat, j < 4 → i < 32 → bt (w.kn j) i = true → i < w.p
def NLP (w : VV) : Prop := NL0 w ∧ KNB w
theorem kx_in {w : VV} {a b h : Nat} (ok : VOK w) (nl : NLP w) (ha : a < 7) (hb : b < 32) (h1 : 1 ≤ h) (h2 : h ≤ 24) (q : bt (kx w (h * 7 + a)) b = true) : b < w.p ∧ ¬ b = a := by
  obtain ⟨j, q1, _, q2⟩ := (kx_bit ok ha hb h1 h2).mp q
  obtain ⟨_, _, hA, hB⟩ := ends_at ok.2.2.1 ok.1 q1
  have := nl.1 j q1
  rcases q2 with ⟨e1, e2⟩ | ⟨_, e1, e2⟩
  · omega
  · omega
theorem b_m1' (x : Int32) {i : Nat} (hi : i < 32) : bt ((-1 : Int32) &&& x) i = bt x i := by rw [b_and, b_m1 i hi, Bool.true_and]
theorem reach_loop {F : Nat → Nat → Int32} {v9 a H o k : Nat} {w : VV} {pH : Nat → Int32} (ok : VOK w) (ow : OWB w) (hr : RP1 F v9 w) (ha : a < 7) (h1 : 1 ≤ H) (h2 : H ≤ 24) (hH : pH k = nI H) (ho : o < 32) : ∀ m : Nat, m ≤ w.p → (bt (L1_X12_reaches (F 12) (F 13) (F 14) (F 15) (F 16) (F 17) pH w.lc v9 k a 0 m) o = true ↔ o < m ∧ ¬ o = a ∧ bt (kx w (H * 7 + a)) o = true)
  | 0, _ => by
    show bt 0 o = true ↔ _
    rw [b_0]
    exact ⟨fun q => (by cases q), fun q => absurd q.1 (Nat.not_lt_zero _)⟩
  | m + 1, hm => by
    have ih := reach_loop (k := k) ok ow hr ha h1 h2 hH ho m (by omega)
    have hp := ok.1
    have step : bt (L1_X12_reaches (F 12) (F 13) (F 14) (F 15) (F 16) (F 17) pH w.lc v9 k a 0 (m + 1)) o = true ↔ bt (L1_X12_reaches (F 12) (F 13) (F 14) (F 15) (F 16) (F 17) pH w.lc v9 k a 0 m) o = true ∨ (o = m ∧ ¬ o = a ∧ bt (kx w (H * 7 + a)) o = true) := by
      show bt (L1_X12_reachess (F 12) (F 13) (F 14) (F 15) (F 16) (F 17) pH w.lc v9 k a m (L1_X12_reaches (F 12) (F 13) (F 14) (F 15) (F 16) (F 17) pH w.lc v9 k a 0 m)) o = true ↔ _
      unfold L1_X12_reachess
      rw [hH]
      have mc := mc_agree (F := F) (i := v9) (a := a) (b := m) (h := H) ok ow hr ha (by omega) h1 h2
      by_cases e : m = a
      · rw [if_pos (congrArg nI e)]
        exact ⟨Or.inl, fun q => q.elim id fun q => absurd (q.1.trans e) q.2.1⟩
      · rw [if_neg (fun q => e ((nI_eq (by omega) (by omega)).mp q))]
        by_cases e2 : F_X12_mayCall (F 12) (F 13) (F 14) (F 15) (F 16) (F 17) w.lc v9 a m (nI H) = 0
        · rw [if_pos e2]
          refine ⟨Or.inl, fun q => q.elim id fun q => ?_⟩
          obtain ⟨q1, q2, q3⟩ := q
          subst q1
          exact absurd e2 (mc.mpr q3)
        · rw [if_neg e2, b_orsh (by omega) ho]
          constructor
          · intro q
            rcases q with q | q
            · exact Or.inl q
            · subst q; exact Or.inr ⟨rfl, e, mc.mp e2⟩
          · intro q
            rcases q with q | q
            · exact Or.inl q
            · exact Or.inr q.1
    rw [step, ih]
    constructor
    · intro q
      rcases q with q | q
      · exact ⟨by omega, q.2⟩
      · exact ⟨by omega, q.2⟩
    · intro q
      by_cases e : o = m
      · exact Or.inr ⟨e, q.2⟩
      · exact Or.inl ⟨by omega, q.2⟩
theorem b_eq {x y : Int32} (h : ∀ i : Nat, i < 32 → (bt x i = true ↔ bt y i = true)) : x = y := b_ext fun i hi => by
  have e := h i hi
  cases h1 : bt x i with
  | true => exact (e.mp h1).symm
  | false =>
    cases h2 : bt y i with
    | true => rw [e.mpr h2] at h1; cases h1
    | false => rfl
theorem reach_agree {F G : Nat → Nat → Int32} {i t : Nat} {v : VV} {w : PP} (ok : VOK v) (ow : OWB v) (nl : NLP v) (hr : RP1 F w.v v) (hw : PWF v.p w) (ht : t < w.c) (g : G 23 (40 * i + t) = w.h t ∧ G 24 (40 * i + t) = w.k t ∧ G 25 (40 * i + t) = w.a t ∧ G 26 (40 * i + t) = w.b t) : F_X12_reaches (F 12) (F 13) (F 14) (F 15) (F 16) (F 17) (G 23) (G 24) (G 26) v.lc v.p w.v (40 * i + t) (tN (G 25 (40 * i + t))) = rcT (kx v) w t := by
  obtain ⟨g1, g2, g3, g4⟩ := g
  obtain ⟨r0, r1, r2⟩ := hn_of hw ht
  have hp := ok.1
  have ha := (hp_at (n := v.p) (by omega) (hw.2.2 t ht).2.2.1).2
  unfold F_X12_reaches rcT F_X10_callable
  rw [g2, g3, g4]
  by_cases h3 : w.k t = 3
  · rw [if_pos h3, if_pos h3]
    refine b_eq fun o ho => ?_
    rw [reach_loop (k := 40 * i + t) (H := hn w t) ok ow hr (by omega) r1 r2 (by rw [g1]; exact r0) ho v.p (Nat.le_refl _), b_m1' _ ho]
    exact ⟨fun q => q.2.2, fun q => ⟨(kx_in ok nl (by omega) ho r1 r2 q).1, (kx_in ok nl (by omega) ho r1 r2 q).2, q⟩⟩
  · rw [if_neg h3, if_neg h3]
    obtain ⟨_, ⟨eb, hb⟩, _⟩ := hc_at (n := v.p) (by omega) ((hw.2.2 t ht).2.2.2 h3)
    have mc := mc_agree (F := F) (i := w.v) (a := tN (w.a t)) (b := tN (w.b t)) (h := hn w t) ok ow hr (by omega) (by omega) r1 r2
    rw [g1, show w.h t = nI (hn w t) from r0, eb, tN_nI (by omega), tN_nI (show hn w t < 2 ^ 31 by omega)]
    refine b_eq fun o ho => ?_
    rw [b_and, b_sh1 (by omega) ho, Bool.and_eq_true, decide_eq_true_eq]
    by_cases e : F_X12_mayCall (F 12) (F 13) (F 14) (F 15) (F 16) (F 17) v.lc w.v (tN (w.a t)) (tN (w.b t)) (nI (hn w t)) = 0
    · rw [if_pos e, b_0]
      refine ⟨fun q => (by cases q), fun q => ?_⟩
      rw [q.1] at q
      exact absurd e (mc.mpr q.2)
    · rw [if_neg e, b_sh1 (by omega) ho, decide_eq_true_eq]
      exact ⟨fun q => ⟨q, by rw [q]; exact mc.mp e⟩, fun q => q.1⟩
theorem and1_1 {y : Int32} : y &&& 1 = 1 ↔ bt y 0 = true := by
  constructor
  · intro h
    have h1 : bt (y &&& 1) 0 = true := by rw [h]; decide
    rw [b_and, b_one 0 (by omega)] at h1
    simpa using h1
  · intro h
    refine b_ext fun i hi => ?_
    rw [b_and, b_one i hi]
    by_cases e : i = 0
    · subst e; rw [h]; rfl
    · simp [e]
theorem ref_step {rA rB rF rT rW rO pH pK pA pB W R : Nat → Int32} {lc pe i v9 j1 j2 a : Nat} {bu rc : Int32} (hre : F_X12_reaches rA rB rF rT rW rO pH pK pB lc pe v9 (40 * i + j2) (tN (pA (40 * i + j2))) = rc) (hpa : pA (40 * i + j2) = nI a) (ha : a < 32) : L2_X12_judges rA rB rF rT rW rO pH pK pA pB lc pe i v9 j1 j2 bu W R = if pH (40 * i + j2) = nI (j1 + 1) then ((if F_X4_verdictOf (nI a) rc bu = 0 then bu ||| (((1 : Int32) <<< (nI a &&& 31)) ||| rc) else bu), upd W j2 (F_X4_verdictOf (nI a) rc bu), upd R j2 rc) else (bu, W, R) := by
  have hh : (bu >>> (nI a &&& 31)) &&& 1 = 1 ↔ ¬ hasv bu (nI a) = 0 := by
    rw [and1_1, bt_hasv ha, b_sshr a ha bu (by omega), if_pos (by omega), Nat.add_zero]
  have n1 : ¬ ((1 : Int32) = 0) := by decide
  have n2 : ¬ ((2 : Int32) = 0) := by decide
  have n3 : ¬ ((3 : Int32) = 0) := by decide
  unfold L2_X12_judges
  rw [hre, hpa]
  simp only [upd_eq]
  by_cases h0 : pH (40 * i + j2) = nI (j1 + 1)
  · rw [if_pos h0, if_pos h0]
    by_cases h1 : rc = 0
    · have ev : F_X4_verdictOf (nI a) rc bu = 1 := if_pos h1
      rw [ev, if_pos h1, if_neg n1, if_neg n1]
    · by_cases h2 : hasv bu (nI a) = 0
      · by_cases h3 : bu &&& rc = 0
        · have ev : F_X4_verdictOf (nI a) rc bu = 0 := by
            unfold F_X4_verdictOf
            rw [if_neg h1, if_pos h2, if_pos (by rw [Int32.and_comm]; exact h3)]
          rw [ev, if_neg h1, if_neg (fun q => hh.mp q h2), if_pos h3, if_pos rfl, if_pos trivial, Int32.or_comm rc]
        · have ev : F_X4_verdictOf (nI a) rc bu = 3 := by
            unfold F_X4_verdictOf
            rw [if_neg h1, if_pos h2, if_neg (by rw [Int32.and_comm]; exact h3)]
          rw [ev, if_neg h1, if_neg (fun q => hh.mp q h2), if_neg h3, if_neg n3, if_neg n3]
      · have ev : F_X4_verdictOf (nI a) rc bu = 2 := by
          unfold F_X4_verdictOf
          rw [if_neg h1, if_neg h2]
        rw [ev, if_neg h1, if_pos (hh.mpr h2), if_neg n2, if_neg n2]
  · rw [if_neg h0, if_neg h0]
section
variable {F G : Nat → Nat → Int32} {i : Nat} {v : VV} {w : PP}
/-- the plan in the reference's rows -/
def PRW (G : Nat → Nat → Int32) (i : Nat) (w : PP) : Prop := ∀ k : Nat, k < w.c → G 23 (40 * i + k) = w.h k ∧ G 24 (40 * i + k) = w.k k ∧ G 25 (40 * i + k) = w.a k ∧ G 26 (40 * i + k) = w.b k
theorem ref_in {W R : Nat → Int32} {j1 : Nat} (hj : j1 < 24) (ok : VOK v) (ow : OWB v) (nl : NLP v) (hr : RP1 F w.v v) (hw : PWF v.p w) (g : PRW G i w) : ∀ m : Nat, m ≤ w.c → (L2_X12_judge (F 12) (F 13) (F 14) (F 15) (F 16) (F 17) (G 23) (G 24) (G 25) (G 26) v.lc v.p i w.v j1 0 W R m).1 = bz (kx v) w (j1 + 1) m ∧ ∀ t : Nat, (t < m ∧ hn w t = j1 + 1 → (L2_X12_judge (F 12) (F 13) (F 14) (F 15) (F 16) (F 17) (G 23) (G 24) (G 25) (G 26) v.lc v.p i w.v j1 0 W R m).2.1 t = vdT (kx v) w t ∧ (L2_X12_judge (F 12) (F 13) (F 14) (F 15) (F 16) (F 17) (G 23) (G 24) (G 25) (G 26) v.lc v.p i w.v j1 0 W R m).2.2 t = rcT (kx v) w t) ∧ (¬ (t < m ∧ hn w t = j1 + 1) → (L2_X12_judge (F 12) (F 13) (F 14) (F 15) (F 16) (F 17) (G 23) (G 24) (G 25) (G 26) v.lc v.p i w.v j1 0 W R m).2.1 t = W t ∧ (L2_X12_judge (F 12) (F 13) (F 14) (F 15) (F 16) (F 17) (G 23) (G 24) (G 25) (G 26) v.lc v.p i w.v j1 0 W R m).2.2 t = R t)
  | 0, _ => ⟨rfl, fun t => ⟨fun h => absurd h.1 (Nat.not_lt_zero _), fun _ => ⟨rfl, rfl⟩⟩⟩
  | m + 1, hm => by
    obtain ⟨ih1, ih2⟩ := ref_in (W := W) (R := R) hj ok ow nl hr hw g m (by omega)
    have hmc : m < w.c := by omega
    have hp := ok.1
    obtain ⟨r0, r1, r2⟩ := hn_of hw hmc
    obtain ⟨ea, ha⟩ := hp_at (n := v.p) (by omega) (hw.2.2 m hmc).2.2.1
    have hre := reach_agree ok ow nl hr hw hmc (g m hmc)
    obtain ⟨g1, g2, g3, g4⟩ := g m hmc
    have st := ref_step (rA := F 12) (rB := F 13) (rF := F 14) (rT := F 15) (rW := F 16) (rO := F 17) (pH := G 23) (pK := G 24) (pA := G 25) (pB := G 26) (lc := v.lc) (pe := v.p) (i := i) (v9 := w.v) (j1 := j1) (j2 := m) (a := tN (w.a m)) (bu := (L2_X12_judge (F 12) (F 13) (F 14) (F 15) (F 16) (F 17) (G 23) (G 24) (G 25) (G 26) v.lc v.p i w.v j1 0 W R m).1) (W := (L2_X12_judge (F 12) (F 13) (F 14) (F 15) (F 16) (F 17) (G 23) (G 24) (G 25) (G 26) v.lc v.p i w.v j1 0 W R m).2.1) (R := (L2_X12_judge (F 12) (F 13) (F 14) (F 15) (F 16) (F 17) (G 23) (G 24) (G 25) (G 26) v.lc v.p i w.v j1 0 W R m).2.2) hre (g3.trans ea) (by omega)
    have eh : G 23 (40 * i + m) = nI (j1 + 1) ↔ hn w m = j1 + 1 := by
      rw [g1, show w.h m = nI (hn w m) from r0]
      exact nI_eq (by omega) (by omega)
    have st2 : L2_X12_judge (F 12) (F 13) (F 14) (F 15) (F 16) (F 17) (G 23) (G 24) (G 25) (G 26) v.lc v.p i w.v j1 0 W R (m + 1) = _ := st
    rw [ih1] at st2
    rw [st2]
    by_cases h1 : hn w m = j1 + 1
    · rw [if_pos (eh.mpr h1)]
      have evd : F_X4_verdictOf (nI (tN (w.a m))) (rcT (kx v) w m) (bz (kx v) w (j1 + 1) m) = vdT (kx v) w m := by
        unfold vdT
        rw [h1]
        rfl
      refine ⟨?_, fun t => ⟨fun h => ?_, fun h => ?_⟩⟩
      · show _ = bz (kx v) w (j1 + 1) (m + 1)
        rw [bz, if_pos h1]
        rfl
      · show upd _ m (F_X4_verdictOf (nI (tN (w.a m))) (rcT (kx v) w m) (bz (kx v) w (j1 + 1) m)) t = _ ∧ upd _ m (rcT (kx v) w m) t = _
        rw [evd]
        by_cases e : t = m
        · subst e; rw [upd_eq, upd_eq]; exact ⟨rfl, rfl⟩
        · rw [upd_ne e, upd_ne e]
          exact (ih2 t).1 ⟨by omega, h.2⟩
      · show upd _ m _ t = _ ∧ upd _ m _ t = _
        have e : ¬ t = m := fun q => h ⟨by omega, by rw [q]; exact h1⟩
        rw [upd_ne e, upd_ne e]
        exact (ih2 t).2 fun q => h ⟨by omega, q.2⟩
    · rw [if_neg (fun q => h1 (eh.mp q))]
      refine ⟨?_, fun t => ⟨fun h => (ih2 t).1 ⟨?_, h.2⟩, fun h => (ih2 t).2 fun q => h ⟨by omega, q.2⟩⟩⟩
      · show _ = bz (kx v) w (j1 + 1) (m + 1)
        rw [bz, if_neg h1]
      · have e : ¬ t = m := fun q => h1 (by rw [← q]; exact h.2)
        omega
theorem ref_out {W R : Nat → Int32} (ok : VOK v) (ow : OWB v) (nl : NLP v) (hr : RP1 F w.v v) (hw : PWF v.p w) (g : PRW G i w) : ∀ H : Nat, H ≤ 24 → ∀ t : Nat, t < w.c → hn w t ≤ H → (L1_X12_judge (F 12) (F 13) (F 14) (F 15) (F 16) (F 17) (G 23) (G 24) (G 25) (G 26) v.lc v.p i w.v w.c W R H).1 t = vdT (kx v) w t ∧ (L1_X12_judge (F 12) (F 13) (F 14) (F 15) (F 16) (F 17) (G 23) (G 24) (G 25) (G 26) v.lc v.p i w.v w.c W R H).2 t = rcT (kx v) w t
  | 0, _, t, ht, h => absurd (hn_of hw ht).2.1 (by omega)
  | H + 1, hH, t, ht, h => by
    have q := (ref_in (W := (L1_X12_judge (F 12) (F 13) (F 14) (F 15) (F 16) (F 17) (G 23) (G 24) (G 25) (G 26) v.lc v.p i w.v w.c W R H).1) (R := (L1_X12_judge (F 12) (F 13) (F 14) (F 15) (F 16) (F 17) (G 23) (G 24) (G 25) (G 26) v.lc v.p i w.v w.c W R H).2) (j1 := H) (by omega) ok ow nl hr hw g w.c (Nat.le_refl _)).2 t
    by_cases e : hn w t = H + 1
    · exact q.1 ⟨ht, e⟩
    · have ih := ref_out (W := W) (R := R) ok ow nl hr hw g H (by omega) t ht (by omega)
      obtain ⟨q1, q2⟩ := q.2 fun z => e z.2
      exact ⟨q1.trans ih.1, q2.trans ih.2⟩
theorem refJ {W R : Nat → Int32} (ok : VOK v) (ow : OWB v) (nl : NLP v) (hr : RP1 F w.v v) (hw : PWF v.p w) (g : PRW G i w) {t : Nat} (ht : t < w.c) : (F_X12_judge (F 12) (F 13) (F 14) (F 15) (F 16) (F 17) (G 23) (G 24) (G 25) (G 26) W R v.lc v.p i w.v w.c).1 t = vdT (kx v) w t ∧ (F_X12_judge (F 12) (F 13) (F 14) (F 15) (F 16) (F 17) (G 23) (G 24) (G 25) (G 26) W R v.lc v.p i w.v w.c).2 t = rcT (kx v) w t :=
  ref_out ok ow nl hr hw g 24 (Nat.le_refl _) t ht (hn_of hw ht).2.2
end
/-- what always holds of valleys and plans -/
def PLX (nv : Nat) (V : Nat → VV) (np : Nat) (P : Nat → PP) : Prop := PLW nv V np P ∧ (∀ j : Nat, j < np → ORD (P j)) ∧ ∀ i : Nat, i < nv → NLP (V i)

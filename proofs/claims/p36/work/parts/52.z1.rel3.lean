/-! what the plans hold, on both sides -/
/-- a plan: its valley, how many calls, their hours, kinds, callers, called, and their order -/
abbrev PP : Type := Nat × Nat × (Nat → Int32) × (Nat → Int32) × (Nat → Int32) × (Nat → Int32) × (Nat → Int32)
def PP.v (w : PP) : Nat := w.1
def PP.c (w : PP) : Nat := w.2.1
def PP.h (w : PP) : Nat → Int32 := w.2.2.1
def PP.k (w : PP) : Nat → Int32 := w.2.2.2.1
def PP.a (w : PP) : Nat → Int32 := w.2.2.2.2.1
def PP.b (w : PP) : Nat → Int32 := w.2.2.2.2.2.1
def PP.o (w : PP) : Nat → Int32 := w.2.2.2.2.2.2
def pset (P : Nat → PP) (i : Nat) (w : PP) : Nat → PP := fun j => if j = i then w else P j
theorem pset_eq {P : Nat → PP} {i : Nat} {w : PP} : pset P i w i = w := if_pos rfl
theorem pset_ne {P : Nat → PP} {i j : Nat} {w : PP} (h : j ≠ i) : pset P i w j = P j := if_neg h
theorem pset_id {P : Nat → PP} {i : Nat} : pset P i (P i) = P := funext fun j => by
  unfold pset; split
  · rename_i e; rw [e]
  · rfl
/-- how many calls all plans have -/
def psum (P : Nat → PP) : Nat → Nat
  | 0 => 0
  | n + 1 => psum P n + (P n).c
theorem psum_set {P : Nat → PP} {i : Nat} {w : PP} (hc : w.c = (P i).c + 1) : ∀ n : Nat, psum (pset P i w) n = if i < n then psum P n + 1 else psum P n
  | 0 => by rw [if_neg (Nat.not_lt_zero _)]; rfl
  | n + 1 => by
    show psum (pset P i w) n + (pset P i w n).c = _
    rw [psum_set hc n]
    show _ = if i < n + 1 then psum P n + (P n).c + 1 else psum P n + (P n).c
    by_cases e : n = i
    · subst e
      rw [pset_eq, hc, if_neg (Nat.lt_irrefl _), if_pos (Nat.lt_succ_self _)]
      omega
    · rw [pset_ne e]
      by_cases h : i < n
      · rw [if_pos h, if_pos (by omega)]
        omega
      · rw [if_neg h, if_neg (by omega)]
theorem psum_add {P : Nat → PP} {i : Nat} {w : PP} : ∀ n : Nat, n ≤ i → psum (pset P i w) n = psum P n
  | 0, _ => rfl
  | n + 1, h => by
    show psum (pset P i w) n + (pset P i w n).c = psum P n + (P n).c
    rw [psum_add n (by omega), pset_ne (by omega)]
/-- where a call comes among those hour by hour -/
def oin (c : Nat) (h : Nat → Int32) (ho : Int32) : Nat → (Nat → Int32) → Nat → Int32
  | 0, o => upd o 0 (nI c)
  | j + 1, o => if h (tN (o j)) ≤ ho then upd o (j + 1) (nI c) else oin c h ho j (upd o (j + 1) (o j))
theorem append_oin {c : Nat} {h k a b : Nat → Int32} {ho ki on ot : Int32} : ∀ (j : Nat) (o : Nat → Int32), L1_X4_append c h k a b ho ki on ot j o = (nI c, nI (c + 1), upd h c ho, upd k c ki, upd a c on, upd b c ot, oin c (upd h c ho) ho j o)
  | 0, o => rfl
  | j + 1, o => by
    rw [L1_X4_append, oin]
    by_cases e : upd h c ho (tN (o j)) ≤ ho
    · rw [if_pos e, if_pos e]; rfl
    · rw [if_neg e, if_neg e]; exact append_oin j _
def OOK (o : Nat → Int32) : Prop := ∀ j : Nat, j < 40 → o j = nI (tN (o j)) ∧ tN (o j) < 40
theorem ook_upd {o : Nat → Int32} {j k : Nat} (h : OOK o) (hk : k < 40) : OOK (upd o j (nI k)) := fun i hi => by
  by_cases e : i = j
  · subst e; rw [upd_eq, tN_nI (by omega)]; exact ⟨rfl, hk⟩
  · rw [upd_ne e]; exact h i hi
theorem oin_ok {c : Nat} {h : Nat → Int32} {ho : Int32} (hc : c < 40) : ∀ (j : Nat) (o : Nat → Int32), j ≤ 40 → OOK o → OOK (oin c h ho j o)
  | 0, o, _, ok => ook_upd ok hc
  | j + 1, o, hj, ok => by
    rw [oin]
    by_cases e : h (tN (o j)) ≤ ho
    · rw [if_pos e]; exact ook_upd ok hc
    · rw [if_neg e]
      refine oin_ok hc j _ (by omega) fun i hi => ?_
      by_cases e2 : i = j + 1
      · subst e2; rw [upd_eq]; exact ok j (by omega)
      · rw [upd_ne e2]; exact ok i hi
/-- whether a call is taken into a plan -/
def cFit (c p : Nat) (ho ki on ot : Int32) : Int32 := if F_X11_isHour ho = 0 then 0 else (if ki < 0 then 0 else (if 4 < ki then 0 else (if F_X4_hasRoom c = 0 then 0 else (if ki = 3 then F_X10_hasPerson (nI p) on else F_X10_hasCouple (nI p) on ot))))
theorem call1_fit {cc : Int32} {c p : Nat} {h k a b o : Nat → Int32} {ho ki on ot : Int32} : F_X11_call1 cc c p h k a b o ho ki on ot = if cFit c p ho ki on ot = 0 then ((-1 : Int32), cc, nI c, h, k, a, b, o) else (nI c, cc + 1, nI (c + 1), upd h c ho, upd k c ki, upd a c on, upd b c ot, oin c (upd h c ho) ho c o) := by
  unfold F_X11_call1 cFit
  by_cases h1 : F_X11_isHour ho = 0
  · rw [if_pos h1, if_pos h1, if_pos rfl]
  · rw [if_neg h1, if_neg h1]
    by_cases h2 : ki < 0
    · rw [if_pos h2, if_pos h2, if_pos rfl]
    · rw [if_neg h2, if_neg h2]
      by_cases h3 : 4 < ki
      · rw [if_pos h3, if_pos h3, if_pos rfl]
      · rw [if_neg h3, if_neg h3]
        by_cases h4 : F_X4_hasRoom c = 0
        · rw [if_pos h4, if_pos h4, if_pos rfl]
        · rw [if_neg h4, if_neg h4]
          have ap : F_X4_append c h k a b o ho ki on ot = (nI c, nI (c + 1), upd h c ho, upd k c ki, upd a c on, upd b c ot, oin c (upd h c ho) ho c o) := by
            unfold F_X4_append
            rw [if_neg h4]
            exact append_oin c o
          rw [ap]
          by_cases h5 : ki = 3
          · rw [if_pos h5, if_pos h5]
          · rw [if_neg h5, if_neg h5]
/-- what a call that is taken says -/
theorem fit_of {c p : Nat} {ho ki on ot : Int32} (hc : c ≤ 40) (h : ¬ cFit c p ho ki on ot = 0) : ¬ F_X11_isHour ho = 0 ∧ 0 ≤ ki ∧ ki ≤ 4 ∧ c < 40 ∧ ¬ F_X10_hasPerson (nI p) on = 0 ∧ (¬ ki = 3 → ¬ F_X10_hasCouple (nI p) on ot = 0) := by
  unfold cFit at h
  by_cases h1 : F_X11_isHour ho = 0
  · rw [if_pos h1] at h; exact absurd rfl h
  · rw [if_neg h1] at h
    by_cases h2 : ki < 0
    · rw [if_pos h2] at h; exact absurd rfl h
    · rw [if_neg h2] at h
      by_cases h3 : 4 < ki
      · rw [if_pos h3] at h; exact absurd rfl h
      · rw [if_neg h3] at h
        by_cases h4 : F_X4_hasRoom c = 0
        · rw [if_pos h4] at h; exact absurd rfl h
        · rw [if_neg h4] at h
          by_cases h5 : ki = 3
          · rw [if_pos h5] at h
            exact ⟨h1, Int32.not_lt.mp h2, Int32.not_lt.mp h3, hroom_at (by omega) h4, h, fun q => absurd h5 q⟩
          · rw [if_neg h5] at h
            refine ⟨h1, Int32.not_lt.mp h2, Int32.not_lt.mp h3, hroom_at (by omega) h4, fun q => h ?_, fun _ => h⟩
            unfold F_X10_hasCouple
            rw [if_pos q]
theorem fit_full {c p : Nat} {ho ki on ot : Int32} (h : F_X4_hasRoom c = 0) : cFit c p ho ki on ot = 0 := by
  unfold cFit
  rw [if_pos h]
  split
  · rfl
  · split
    · rfl
    · split <;> rfl
def pOf (w : PP) (ho ki on ot : Int32) : PP := (w.v, w.c + 1, upd w.h w.c ho, upd w.k w.c ki, upd w.a w.c on, upd w.b w.c ot, oin w.c (upd w.h w.c ho) ho w.c w.o)
def cAns (np : Nat) (V : Nat → VV) (P : Nat → PP) (x ho ki on ot : Int32) : Int32 := if F_X12_isPlan np x = 0 then -1 else (if cFit (P (tN x)).c (V (P (tN x)).v).p ho ki on ot = 0 then -1 else nI (P (tN x)).c)
def cNew (np : Nat) (V : Nat → VV) (P : Nat → PP) (x ho ki on ot : Int32) : Nat → PP := if F_X12_isPlan np x = 0 then P else (if cFit (P (tN x)).c (V (P (tN x)).v).p ho ki on ot = 0 then P else pset P (tN x) (pOf (P (tN x)) ho ki on ot))
/-- what is always so of a plan's calls -/
def PWF (p : Nat) (w : PP) : Prop := w.c ≤ 40 ∧ OOK w.o ∧ ∀ k : Nat, k < w.c → ¬ F_X11_isHour (w.h k) = 0 ∧ (0 ≤ w.k k ∧ w.k k ≤ 4) ∧ ¬ F_X10_hasPerson (nI p) (w.a k) = 0 ∧ (¬ w.k k = 3 → ¬ F_X10_hasCouple (nI p) (w.a k) (w.b k) = 0)
def PLW (nv : Nat) (V : Nat → VV) (np : Nat) (P : Nat → PP) : Prop := ∀ j : Nat, j < np → (P j).v < nv ∧ PWF (V (P j).v).p (P j)
theorem pwf_call {p : Nat} {w : PP} {ho ki on ot : Int32} (h : PWF p w) (hf : ¬ cFit w.c p ho ki on ot = 0) : PWF p (pOf w ho ki on ot) := by
  obtain ⟨h1, h2, h3⟩ := h
  obtain ⟨f1, f2, f3, f4, f5, f6⟩ := fit_of h1 hf
  refine ⟨f4, oin_ok f4 _ _ (by omega) h2, fun k hk => ?_⟩
  show ¬ F_X11_isHour (upd w.h w.c ho k) = 0 ∧ (0 ≤ upd w.k w.c ki k ∧ upd w.k w.c ki k ≤ 4) ∧ ¬ F_X10_hasPerson (nI p) (upd w.a w.c on k) = 0 ∧ (¬ upd w.k w.c ki k = 3 → ¬ F_X10_hasCouple (nI p) (upd w.a w.c on k) (upd w.b w.c ot k) = 0)
  by_cases e : k = w.c
  · subst e
    rw [upd_eq, upd_eq, upd_eq, upd_eq]
    exact ⟨f1, ⟨f2, f3⟩, f5, f6⟩
  · rw [upd_ne e, upd_ne e, upd_ne e, upd_ne e]
    have hk : k < w.c + 1 := hk
    exact h3 k (by omega)
theorem plw_call {nv np : Nat} {V : Nat → VV} {P : Nat → PP} {x ho ki on ot : Int32} (h : PLW nv V np P) : PLW nv V np (cNew np V P x ho ki on ot) := by
  unfold cNew
  split
  · exact h
  · split
    · exact h
    · rename_i hf
      intro j hj
      by_cases e : j = tN x
      · subst e; rw [pset_eq]; exact ⟨(h _ hj).1, pwf_call (h _ hj).2 hf⟩
      · rw [pset_ne e]; exact h j hj
theorem plw_vset {nv np i : Nat} {V : Nat → VV} {P : Nat → PP} {w : VV} (h : PLW nv V np P) (hp : w.p = (V i).p) : PLW nv (vset V i w) np P := fun j hj => by
  obtain ⟨h1, h2⟩ := h j hj
  refine ⟨h1, ?_⟩
  by_cases e : (P j).v = i
  · rw [e, vset_eq, hp, ← e]; exact h2
  · rw [vset_ne e]; exact h2
theorem plw_vnew {nv np : Nat} {V : Nat → VV} {P : Nat → PP} {x : Int32} {f : VV → VV} (h : PLW nv V np P) (hp : ∀ w : VV, (f w).p = w.p) : PLW nv (vNew nv V x f) np P := by
  unfold vNew
  split
  · exact h
  · exact plw_vset h (hp _)
theorem plw_more {nv nv' np : Nat} {V : Nat → VV} {P : Nat → PP} {w : VV} (h : PLW nv V np P) (hn : nv ≤ nv') : PLW nv' (vset V nv w) np P := fun j hj => by
  obtain ⟨h1, h2⟩ := h j hj
  refine ⟨by omega, ?_⟩
  rw [vset_ne (by omega)]; exact h2
def pZero (i : Nat) : PP := (i, 0, fun _ => 0, fun _ => 0, fun _ => 0, fun _ => 0, fun _ => 0)
def pNew (nv np : Nat) (P : Nat → PP) (x : Int32) : Nat → PP := if ¬ F_X12_isValley nv x = 0 ∧ np < 12 then pset P np (pZero (tN x)) else P
def pNum (nv np : Nat) (x : Int32) : Nat := if ¬ F_X12_isValley nv x = 0 ∧ np < 12 then np + 1 else np
theorem pwf_zero {p i : Nat} : PWF p (pZero i) := ⟨Nat.zero_le _, fun _ _ => ⟨rfl, (show tN (0 : Int32) < 40 by decide)⟩, fun k hk => absurd hk (Nat.not_lt_zero _)⟩
theorem plw_plan {nv np : Nat} {V : Nat → VV} {P : Nat → PP} {x : Int32} (hnv : nv ≤ 10) (h : PLW nv V np P) : PLW nv V (pNum nv np x) (pNew nv np P x) := by
  unfold pNum pNew
  split
  · rename_i hf
    obtain ⟨e1, e2⟩ := rv_at (n := nv) (by omega) hf.1
    intro j hj
    by_cases e : j = np
    · subst e; rw [pset_eq]; exact ⟨e2, pwf_zero⟩
    · rw [pset_ne e]; exact h j (by omega)
  · exact h
def PWc (g : GG) (q v : Nat) (w : PP) : va_W := [(q, .inr (4, [.ref v, .int (nI w.c), .ref (q + 1), .ref (q + 2), .ref (q + 3), .ref (q + 4), .ref (q + 5), .ref (q + 6), .ref (q + 7)])), (q + 1, .inl (g.2.1 1, 40, .inl w.h)), (q + 2, .inl (g.2.1 1, 40, .inl w.k)), (q + 3, .inl (g.2.1 1, 40, .inl w.a)), (q + 4, .inl (g.2.1 1, 40, .inl w.b)), (q + 5, .inl (g.2.1 1, 40, .inl w.o))]
/-- the class's plan at its place -/
def PC (g : GG) (q v : Nat) (w : PP) (H : Heap) : Prop := va_P g.1 CLS (PWc g q v w) H
def BLKP (Γ : Nat → Nat) (a : Nat) : Prop := Γ a = 4 ∧ ∀ m : Nat, 1 ≤ m → m ≤ 5 → 31 ≤ Γ (a + m) ∧ Γ (a + m) ≤ 35
def PCLs : List (Nat × Nat) := [(4, 0), (4, 1), (4, 2), (4, 3), (4, 4), (4, 5), (4, 6), (4, 7), (4, 8), (31, 0), (32, 0), (33, 0), (34, 0), (35, 0)]
def RCP (g : GG) (x0 np : Nat) (P : Nat → PP) (H : Heap) : Prop := ∃ (va pa : Nat) (fA fB : Nat → Option Nat), FE g x0 11 1 H (.ref va) ∧ RFA g va 4 10 fA H ∧ FE g x0 11 2 H (.ref pa) ∧ RFA g pa 5 12 fB H ∧ FE g x0 11 13 H (.int (nI (psum P np))) ∧ (∀ j : Nat, j < np → ∃ q v : Nat, fB j = some q ∧ fA (P j).v = some v ∧ PC g q v (P j) H) ∧ ∀ i j a : Nat, i < np → j < np → fB i = some a → fB j = some a → i = j
section
variable {g : GG} {Γ Γ1 : Nat → Nat} {H H1 : Heap} {x0 m0 n nv np a q v : Nat} {fb : Nat → Int32} {w : PP} {P : Nat → PP} {V : Nat → VV} {mods : List (Nat × Nat)}
theorem PC.tags (h : PC g q v w H) (hT : HT g TS0 Γ H) (tq : Γ q = 4) : Γ v = 3 ∧ Γ (q + 1) = 31 ∧ Γ (q + 2) = 32 ∧ Γ (q + 3) = 33 ∧ Γ (q + 4) = 34 ∧ Γ (q + 5) = 35 := by
  have A := h 0 _ rfl
  exact ⟨(ref_tag (k := 0) (u := 3) hT tq (by decide) rfl rfl (FE_at (k := 0) A rfl (by decide) rfl)).1, (ref_tag (k := 2) (u := 31) hT tq (by decide) rfl rfl (FE_at (k := 2) A rfl (by decide) rfl)).1, (ref_tag (k := 3) (u := 32) hT tq (by decide) rfl rfl (FE_at (k := 3) A rfl (by decide) rfl)).1, (ref_tag (k := 4) (u := 33) hT tq (by decide) rfl rfl (FE_at (k := 4) A rfl (by decide) rfl)).1, (ref_tag (k := 5) (u := 34) hT tq (by decide) rfl rfl (FE_at (k := 5) A rfl (by decide) rfl)).1, (ref_tag (k := 6) (u := 35) hT tq (by decide) rfl rfl (FE_at (k := 6) A rfl (by decide) rfl)).1⟩
theorem PC.blk (h : PC g q v w H) (hT : HT g TS0 Γ H) (tq : Γ q = 4) : BLKP Γ q := by
  obtain ⟨s0, s1, s2, s3, s4, s5⟩ := h.tags hT tq
  refine ⟨tq, fun m h1 h2 => ?_⟩
  match m, h1, h2 with
  | 1, _, _ => rw [s1]; decide
  | 2, _, _ => rw [s2]; decide
  | 3, _, _ => rw [s3]; decide
  | 4, _, _ => rw [s4]; decide
  | 5, _, _ => rw [s5]; decide
  | m + 6, _, h2 => exact absurd h2 (by omega)
theorem DV4 (hT : HT g TS0 Γ H) (tq : Γ q = 4) : ∃ (b0 : Nat) (i1 : Int32) (b2 b3 b4 b5 b6 b7 b8 : Nat), va_at g.1 CLS (q, .inr (4, [.ref b0, .int i1, .ref b2, .ref b3, .ref b4, .ref b5, .ref b6, .ref b7, .ref b8])) H := by
  obtain ⟨vs, hat, hv⟩ := h_obj hT (by rw [tq]; decide) ((congrArg TS0.1 tq).trans rfl)
  have hv : VR g Γ [vr 3, vi 0 40, vr 31, vr 32, vr 33, vr 34, vr 35, vr 36, vr 37] vs := hv
  obtain ⟨v0, s0, rfl, a0, hv⟩ := vr_cons hv
  obtain ⟨v1, s1, rfl, a1, hv⟩ := vr_cons hv
  obtain ⟨v2, s2, rfl, a2, hv⟩ := vr_cons hv
  obtain ⟨v3, s3, rfl, a3, hv⟩ := vr_cons hv
  obtain ⟨v4, s4, rfl, a4, hv⟩ := vr_cons hv
  obtain ⟨v5, s5, rfl, a5, hv⟩ := vr_cons hv
  obtain ⟨v6, s6, rfl, a6, hv⟩ := vr_cons hv
  obtain ⟨v7, s7, rfl, a7, hv⟩ := vr_cons hv
  obtain ⟨v8, s8, rfl, a8, hv⟩ := vr_cons hv
  obtain rfl := vr_nil hv
  obtain ⟨b0, rfl, -, -⟩ := avi_ref rfl a0
  obtain ⟨i1, rfl, -⟩ := avi_int rfl a1
  obtain ⟨b2, rfl, -, -⟩ := avi_ref rfl a2
  obtain ⟨b3, rfl, -, -⟩ := avi_ref rfl a3
  obtain ⟨b4, rfl, -, -⟩ := avi_ref rfl a4
  obtain ⟨b5, rfl, -, -⟩ := avi_ref rfl a5
  obtain ⟨b6, rfl, -, -⟩ := avi_ref rfl a6
  obtain ⟨b7, rfl, -, -⟩ := avi_ref rfl a7
  obtain ⟨b8, rfl, -, -⟩ := avi_ref rfl a8
  exact ⟨b0, i1, b2, b3, b4, b5, b6, b7, b8, hat⟩
theorem PC.keep (h : PC g q v w H) (hT : HT g TS0 Γ H) (hT1 : HT g TS0 Γ H1) (tq : Γ q = 4) (hu : Un g TS0 Γ mods H H1) (hm : mdn PCLs mods = true) : PC g q v w H1 := by
  obtain ⟨s0, s1, s2, s3, s4, s5⟩ := h.tags hT tq
  obtain ⟨b0, i1, b2, b3, b4, b5, b6, b7, b8, A1⟩ := DV4 hT1 tq
  cases FE_fun (FE_at (k := 0) A1 rfl (by decide) rfl) (hu.fld tq (by decide) rfl (mdn_at hm (by decide)) (FE_at (k := 0) (h 0 _ rfl) rfl (by decide) rfl))
  cases FE_fun (FE_at (k := 1) A1 rfl (by decide) rfl) (hu.fld tq (by decide) rfl (mdn_at hm (by decide)) (FE_at (k := 1) (h 0 _ rfl) rfl (by decide) rfl))
  cases FE_fun (FE_at (k := 2) A1 rfl (by decide) rfl) (hu.fld tq (by decide) rfl (mdn_at hm (by decide)) (FE_at (k := 2) (h 0 _ rfl) rfl (by decide) rfl))
  cases FE_fun (FE_at (k := 3) A1 rfl (by decide) rfl) (hu.fld tq (by decide) rfl (mdn_at hm (by decide)) (FE_at (k := 3) (h 0 _ rfl) rfl (by decide) rfl))
  cases FE_fun (FE_at (k := 4) A1 rfl (by decide) rfl) (hu.fld tq (by decide) rfl (mdn_at hm (by decide)) (FE_at (k := 4) (h 0 _ rfl) rfl (by decide) rfl))
  cases FE_fun (FE_at (k := 5) A1 rfl (by decide) rfl) (hu.fld tq (by decide) rfl (mdn_at hm (by decide)) (FE_at (k := 5) (h 0 _ rfl) rfl (by decide) rfl))
  cases FE_fun (FE_at (k := 6) A1 rfl (by decide) rfl) (hu.fld tq (by decide) rfl (mdn_at hm (by decide)) (FE_at (k := 6) (h 0 _ rfl) rfl (by decide) rfl))
  cases FE_fun (FE_at (k := 7) A1 rfl (by decide) rfl) (hu.fld tq (by decide) rfl (mdn_at hm (by decide)) (FE_at (k := 7) (h 0 _ rfl) rfl (by decide) rfl))
  cases FE_fun (FE_at (k := 8) A1 rfl (by decide) rfl) (hu.fld tq (by decide) rfl (mdn_at hm (by decide)) (FE_at (k := 8) (h 0 _ rfl) rfl (by decide) rfl))
  exact vaP_cons A1 (vaP_cons (va_at.kept (h 1 _ rfl) (hu.arr s1 (by decide) rfl (mdn_at hm (by decide)))) (vaP_cons (va_at.kept (h 2 _ rfl) (hu.arr s2 (by decide) rfl (mdn_at hm (by decide)))) (vaP_cons (va_at.kept (h 3 _ rfl) (hu.arr s3 (by decide) rfl (mdn_at hm (by decide)))) (vaP_cons (va_at.kept (h 4 _ rfl) (hu.arr s4 (by decide) rfl (mdn_at hm (by decide)))) (vaP_cons (va_at.kept (h 5 _ rfl) (hu.arr s5 (by decide) rfl (mdn_at hm (by decide)))) vaP_nil)))))
theorem PC.kept (h : PC g q v w H) (e : ∀ m : Nat, m ≤ 5 → H1[q + m]? = H[q + m]?) : PC g q v w H1 := vaP_cons (va_at.kept (h 0 _ rfl) (e 0 (by omega))) (vaP_cons (va_at.kept (h 1 _ rfl) (e 1 (by omega))) (vaP_cons (va_at.kept (h 2 _ rfl) (e 2 (by omega))) (vaP_cons (va_at.kept (h 3 _ rfl) (e 3 (by omega))) (vaP_cons (va_at.kept (h 4 _ rfl) (e 4 (by omega))) (vaP_cons (va_at.kept (h 5 _ rfl) (e 5 (by omega))) vaP_nil)))))
/-- a plan's cells are none of another one's -/
theorem blkp_ne {b m m' : Nat} (ha : BLKP Γ a) (hb : BLKP Γ b) (hne : a ≠ b) (h : m ≤ 5) (h' : m' ≤ 5) : a + m ≠ b + m' := fun e => by
  rcases Nat.lt_or_gt_of_ne hne with hlt | hlt
  · have h1 := ha.2 (b - a) (by omega) (by omega)
    rw [show a + (b - a) = b by omega, hb.1] at h1
    omega
  · have h1 := hb.2 (a - b) (by omega) (by omega)
    rw [show b + (a - b) = a by omega, ha.1] at h1
    omega
theorem blkp_tag {m : Nat} (ha : BLKP Γ a) (h : m ≤ 5) : Γ (a + m) = 4 ∨ (31 ≤ Γ (a + m) ∧ Γ (a + m) ≤ 35) := by
  by_cases h0 : m = 0
  · subst h0; exact Or.inl ha.1
  · exact Or.inr (ha.2 m (by omega) h)
/-- what a call touches: cells that are no plan's, and those of one plan -/
def WINP (Γ : Nat → Nat) (a : Nat) (ws : va_W) : Prop := ∀ (k : Nat) (q : Nat) (e : va_E), ws[k]? = some (q, e) → (Γ q ≠ 4 ∧ (Γ q < 31 ∨ 35 < Γ q)) ∨ ∃ m : Nat, m ≤ 5 ∧ q = a + m
theorem winp_cons {ws : va_W} {e : va_E} (h : (Γ q ≠ 4 ∧ (Γ q < 31 ∨ 35 < Γ q)) ∨ ∃ m : Nat, m ≤ 5 ∧ q = a + m) (hw : WINP Γ a ws) : WINP Γ a ((q, e) :: ws) := fun k q' e' hq => by
  cases k with
  | zero => cases hq; exact h
  | succ k => exact hw k q' e' hq
theorem winp_nil : WINP Γ a [] := fun k q e h => by cases k <;> cases h
theorem winp_t {t : Nat} (h : Γ q = t) (ht : t ≠ 4 ∧ (t < 31 ∨ 35 < t)) : (Γ q ≠ 4 ∧ (Γ q < 31 ∨ 35 < Γ q)) ∨ ∃ m : Nat, m ≤ 5 ∧ q = a + m := Or.inl (by rw [h]; exact ht)
theorem winp_other {b m : Nat} {ws : va_W} (ha : BLKP Γ a) (hb : BLKP Γ b) (hne : b ≠ a) (hw : WINP Γ a ws) (hm : m ≤ 5) (hT : HT g TS0 Γ H) (hk : ∀ q : Nat, q < H.size → ¬ va_A ws H.size q → H1[q]? = H[q]?) : H1[b + m]? = H[b + m]? := by
  have hlt : b + m < H.size := hT.lt (by rcases blkp_tag hb hm with h | h <;> omega)
  refine hk _ hlt fun hA => ?_
  rcases hA with ⟨k, e, hq⟩ | hA
  · rcases hw k _ e hq with ⟨h1, h2⟩ | ⟨m', hm', h1⟩
    · rcases blkp_tag hb hm with h | h <;> omega
    · exact blkp_ne hb ha hne hm hm' h1
  · omega
theorem RCP.tag {pa : Nat} {fB : Nat → Option Nat} (hT : HT g TS0 Γ H) (tx : Γ x0 = 1) (h2 : FE g x0 11 2 H (.ref pa)) (h9 : RFA g pa 5 12 fB H) {i : Nat} (hi : i < 12) (hB : fB i = some a) : Γ a = 4 :=
  (RFA_tag hT (ref_tag (k := 2) (u := 21) hT tx (by decide) rfl rfl h2).1 (by decide) rfl (Or.inr rfl) h9 hi hB).1
theorem RCP.keep (h : RCP g x0 np P H) (hnp : np ≤ 12) (hT : HT g TS0 Γ H) (hT1 : HT g TS0 Γ H1) (tx : Γ x0 = 1) (hu : Un g TS0 Γ mods H H1) (hm : mdn ((1, 1) :: (20, 0) :: (1, 2) :: (21, 0) :: (1, 13) :: PCLs) mods = true) : RCP g x0 np P H1 := by
  obtain ⟨va, pa, fA, fB, k1, k9, k2, k11, k13, k14, k15⟩ := h
  have ta := (ref_tag (k := 1) (u := 20) hT tx (by decide) rfl rfl k1).1
  have tp := (ref_tag (k := 2) (u := 21) hT tx (by decide) rfl rfl k2).1
  have hm2 : mdn PCLs mods = true := by
    have := List.all_eq_true.mp hm
    exact List.all_eq_true.mpr fun q hq => this q (List.mem_cons_of_mem _ (List.mem_cons_of_mem _ (List.mem_cons_of_mem _ (List.mem_cons_of_mem _ (List.mem_cons_of_mem _ hq)))))
  refine ⟨va, pa, fA, fB, hu.fld tx (by decide) rfl (mdn_at hm (by decide)) k1, k9.kept (hu.arr ta (by decide) rfl (mdn_at hm (by decide))), hu.fld tx (by decide) rfl (mdn_at hm (by decide)) k2, k11.kept (hu.arr tp (by decide) rfl (mdn_at hm (by decide))), hu.fld tx (by decide) rfl (mdn_at hm (by decide)) k13, fun j hj => ?_, k15⟩
  obtain ⟨q, v, hB, hA, hP⟩ := k14 j hj
  exact ⟨q, v, hB, hA, hP.keep hT hT1 (RCP.tag hT tx k2 k11 (by omega) hB) hu hm2⟩
/-- one plan may have changed -/
theorem RCP.upd {va pa i : Nat} {fA fB : Nat → Option Nat} {ws : va_W} (hnp : np ≤ 12) (hT : HT g TS0 Γ H) (tx : Γ x0 = 1) (k2 : FE g x0 11 2 H (.ref pa)) (k11 : RFA g pa 5 12 fB H) (k14 : ∀ j : Nat, j < np → ∃ q v : Nat, fB j = some q ∧ fA (P j).v = some v ∧ PC g q v (P j) H) (k15 : ∀ i j a : Nat, i < np → j < np → fB i = some a → fB j = some a → i = j) (hi : i < np) (hB : fB i = some q) (hA : fA w.v = some v) (hw : WINP Γ q ws) (hk : ∀ q : Nat, q < H.size → ¬ va_A ws H.size q → H1[q]? = H[q]?) (y1 : FE g x0 11 1 H1 (.ref va)) (y9 : RFA g va 4 10 fA H1) (y2 : FE g x0 11 2 H1 (.ref pa)) (y11 : RFA g pa 5 12 fB H1) (y13 : FE g x0 11 13 H1 (.int (nI (psum (pset P i w) np)))) (hnew : PC g q v w H1) : RCP g x0 np (pset P i w) H1 := by
  refine ⟨va, pa, fA, fB, y1, y9, y2, y11, y13, fun j hj => ?_, k15⟩
  by_cases hji : j = i
  · subst hji
    rw [pset_eq]
    exact ⟨q, v, hB, hA, hnew⟩
  · rw [pset_ne hji]
    obtain ⟨b, u, hB2, hA2, hP⟩ := k14 j hj
    obtain ⟨q', v', hB', hA', hP'⟩ := k14 i hi
    cases hB.symm.trans hB'
    exact ⟨b, u, hB2, hA2, hP.kept fun m hm => winp_other (hP'.blk hT (RCP.tag hT tx k2 k11 (by omega) hB)) (hP.blk hT (RCP.tag hT tx k2 k11 (by omega) hB2)) (fun e => hji (k15 j i b hj hi hB2 (by rw [e]; exact hB))) hw hm hT hk⟩
/-- none has changed -/
theorem RCP.same {va pa : Nat} {fA fA' fB : Nat → Option Nat} (hT : HT g TS0 Γ H) (tx : Γ x0 = 1) (hnp : np ≤ 12) (k2 : FE g x0 11 2 H (.ref pa)) (k11 : RFA g pa 5 12 fB H) (k14 : ∀ j : Nat, j < np → ∃ q v : Nat, fB j = some q ∧ fA (P j).v = some v ∧ PC g q v (P j) H) (k15 : ∀ i j a : Nat, i < np → j < np → fB i = some a → fB j = some a → i = j) (kp : ∀ q : Nat, Γ q = 4 ∨ (31 ≤ Γ q ∧ Γ q ≤ 35) → H1[q]? = H[q]?) (hf : ∀ j : Nat, j < np → fA' (P j).v = fA (P j).v) (y1 : FE g x0 11 1 H1 (.ref va)) (y9 : RFA g va 4 10 fA' H1) (y2 : FE g x0 11 2 H1 (.ref pa)) (y11 : RFA g pa 5 12 fB H1) (y13 : FE g x0 11 13 H1 (.int (nI (psum P np)))) : RCP g x0 np P H1 := by
  refine ⟨va, pa, fA', fB, y1, y9, y2, y11, y13, fun j hj => ?_, k15⟩
  obtain ⟨b, u, hB2, hA2, hP⟩ := k14 j hj
  exact ⟨b, u, hB2, (hf j hj).trans hA2, hP.kept fun m hm => kp _ (blkp_tag (hP.blk hT (RCP.tag hT tx k2 k11 (by omega) hB2)) hm)⟩
end

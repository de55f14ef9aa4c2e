/-! news carried: one told -/
theorem hvb_0 {x : Int32} {b : Nat} (hb : b < 32) : hasv x (nI b) = 0 ↔ bt x b = false := by
  constructor
  · intro h
    cases e : bt x b with
    | false => rfl
    | true => exact absurd h ((bt_hasv hb).mpr e)
  · intro h
    by_cases e : hasv x (nI b) = 0
    · exact e
    · rw [(bt_hasv hb).mp e] at h; cases h
theorem shr_0 {x : Int32} {b : Nat} (hb : b < 32) : (x >>> (nI b &&& 31)) &&& 1 = 0 ↔ bt x b = false := by
  rw [← hvb_0 hb]
  unfold hasv
  by_cases e : (x >>> (nI b &&& 31)) &&& 1 = 0
  · rw [if_pos e]; exact ⟨fun _ => rfl, fun _ => e⟩
  · rw [if_neg e]; exact ⟨fun q => absurd q e, fun q => absurd q (by decide)⟩
theorem b_nt (x : Int32) {i : Nat} (hi : i < 32) : bt (x ^^^ (-1 : Int32)) i = !bt x i := by rw [b_xor, b_m1 i hi, Bool.xor_true]
def hrd (k nw : Int32) : Int32 := nw &&& (k ^^^ (-1 : Int32))
def tlK (d : Bool) (k t nw : Int32) : Int32 := k ||| (bif d then hrd k nw &&& t else hrd k nw)
def tlT (d : Bool) (k t nw : Int32) : Int32 := (t ||| hrd k nw) &&& (tlK d k t nw ^^^ (-1 : Int32))
theorem b_hrd (k nw : Int32) {i : Nat} (hi : i < 32) : bt (hrd k nw) i = (bt nw i && !bt k i) := by
  unfold hrd
  rw [b_and, b_nt k hi]
theorem hrd_0 {k : Int32} : hrd k 0 = 0 := b_ext fun i hi => by rw [b_hrd k 0 hi, b_0, Bool.false_and]
theorem or_0 (x : Int32) : x ||| 0 = x := b_ext fun i _ => by rw [b_or, b_0, Bool.or_false]
theorem tlK_0 {d : Bool} {k t : Int32} : tlK d k t 0 = k := by
  unfold tlK
  rw [hrd_0]
  cases d with
  | false => exact or_0 k
  | true => exact b_ext fun i _ => by rw [cond_true, b_or, b_and, b_0, Bool.false_and, Bool.or_false]
theorem tlT_0 {d : Bool} {k t : Int32} (h : t &&& k = 0) : tlT d k t 0 = t := by
  unfold tlT
  rw [hrd_0, tlK_0, or_0]
  refine b_ext fun i hi => ?_
  have e : bt (t &&& k) i = false := by rw [h]; exact b_0 i
  rw [b_and] at e
  rw [b_and, b_nt k hi]
  cases h1 : bt t i <;> cases h2 : bt k i <;> simp_all
theorem tlT_k {d : Bool} {k t nw : Int32} : tlT d k t nw &&& tlK d k t nw = 0 := by
  unfold tlT
  generalize tlK d k t nw = y
  refine b_ext fun i hi => ?_
  rw [b_and, b_and, b_nt y hi, b_0]
  cases bt y i <;> simp
theorem tell_eq {yd : Int32} {kN tO : Nat → Int32} {o : Nat} {nw : Int32} (ho : o < 32) : F_X1_tell yd kN tO o nw = ((if hrd (kN o) nw = 0 then (0 : Int32) else 1), upd kN o (tlK (bt yd o) (kN o) (tO o) nw), upd tO o (tlT (bt yd o) (kN o) (tO o) nw)) := by
  unfold F_X1_tell tlT tlK hrd
  simp only [upd_eq]
  cases hd : bt yd o with
  | false =>
    rw [if_pos ((hvb_0 ho).mpr hd)]
    by_cases h : nw &&& (kN o ^^^ (-1 : Int32)) = 0
    · rw [if_pos h, if_pos h]; rfl
    · rw [if_neg h, if_neg h]; rfl
  | true =>
    rw [if_neg (fun q => by rw [(hvb_0 ho).mp q] at hd; cases hd)]
    by_cases h : nw &&& (kN o ^^^ (-1 : Int32)) = 0
    · rw [if_pos h, if_pos h]; rfl
    · rw [if_neg h, if_neg h]; rfl
theorem ite_iff {α : Sort _} {a b : Prop} [Decidable a] [Decidable b] (c : a ↔ b) (x y : α) : (if a then x else y) = if b then x else y := by
  by_cases q : a
  · rw [if_pos q, if_pos (c.mp q)]
  · rw [if_neg q, if_neg (fun z => q (c.mpr z))]
abbrev inS (ot wo : Int32) (x : Nat) : Prop := bt ot x = true ∧ ¬ nI x = wo
/-! one shouts -/
theorem shout_at {yd ot wo : Int32} {ca : Nat} {kN tO : Nat → Int32} (hno : bt ot ca = false) : ∀ m : Nat, m ≤ 7 → ∀ x : Nat, (L1_X1_shout yd ca ot wo 0 kN tO m).2.1 x = (if x < m ∧ inS ot wo x then tlK (bt yd x) (kN x) (tO x) (kN ca) else kN x) ∧ (L1_X1_shout yd ca ot wo 0 kN tO m).2.2 x = (if x < m ∧ inS ot wo x then tlT (bt yd x) (kN x) (tO x) (kN ca) else tO x)
  | 0, _, x => ⟨(if_neg (fun q => absurd q.1 (Nat.not_lt_zero _))).symm, (if_neg (fun q => absurd q.1 (Nat.not_lt_zero _))).symm⟩
  | m + 1, hm, x => by
    have ih := shout_at (yd := yd) (wo := wo) (kN := kN) (tO := tO) hno m (by omega)
    have e : L1_X1_shout yd ca ot wo 0 kN tO (m + 1) = L1_X1_shouts yd ca ot wo m (L1_X1_shout yd ca ot wo 0 kN tO m).1 (L1_X1_shout yd ca ot wo 0 kN tO m).2.1 (L1_X1_shout yd ca ot wo 0 kN tO m).2.2 := rfl
    rw [e]
    generalize L1_X1_shout yd ca ot wo 0 kN tO m = s at ih
    have skip : ¬ inS ot wo m → s.2.1 x = (if x < m + 1 ∧ inS ot wo x then tlK (bt yd x) (kN x) (tO x) (kN ca) else kN x) ∧ s.2.2 x = (if x < m + 1 ∧ inS ot wo x then tlT (bt yd x) (kN x) (tO x) (kN ca) else tO x) := fun hn => by
      have c : (x < m ∧ inS ot wo x) ↔ (x < m + 1 ∧ inS ot wo x) := ⟨fun q => ⟨by omega, q.2⟩, fun q => ⟨by
        rcases Nat.lt_or_ge x m with l | l
        · exact l
        · have : x = m := by omega
          subst this
          exact absurd q.2 hn, q.2⟩⟩
      rw [(ih x).1, (ih x).2]
      exact ⟨ite_iff c _ _, ite_iff c _ _⟩
    unfold L1_X1_shouts
    by_cases h1 : hasv ot (nI m) = 0
    · rw [if_pos h1]
      exact skip (fun q => by have h := q.1; rw [(hvb_0 (show m < 32 by omega)).mp h1] at h; cases h)
    · rw [if_neg h1]
      by_cases h2 : nI m = wo
      · rw [if_pos h2]
        exact skip (fun q => q.2 h2)
      · rw [if_neg h2]
        have hS : inS ot wo m := ⟨(bt_hasv (by omega)).mp h1, h2⟩
        have eca : s.2.1 ca = kN ca := by rw [(ih ca).1, if_neg (fun q => by have h := q.2.1; rw [hno] at h; cases h)]
        have em : s.2.1 m = kN m ∧ s.2.2 m = tO m := by rw [(ih m).1, (ih m).2, if_neg (fun q => absurd q.1 (Nat.lt_irrefl _)), if_neg (fun q => absurd q.1 (Nat.lt_irrefl _))]; exact ⟨rfl, rfl⟩
        rw [tell_eq (yd := yd) (kN := s.2.1) (tO := s.2.2) (nw := s.2.1 ca) (show m < 32 by omega), em.1, em.2, eca]
        have fin : upd s.2.1 m (tlK (bt yd m) (kN m) (tO m) (kN ca)) x = (if x < m + 1 ∧ inS ot wo x then tlK (bt yd x) (kN x) (tO x) (kN ca) else kN x) ∧ upd s.2.2 m (tlT (bt yd m) (kN m) (tO m) (kN ca)) x = (if x < m + 1 ∧ inS ot wo x then tlT (bt yd x) (kN x) (tO x) (kN ca) else tO x) := by
          by_cases q : x = m
          · subst q
            rw [upd_eq, upd_eq, if_pos ⟨Nat.lt_succ_self _, hS⟩, if_pos ⟨Nat.lt_succ_self _, hS⟩]; exact ⟨rfl, rfl⟩
          · rw [upd_ne q, upd_ne q, (ih x).1, (ih x).2]
            have c : (x < m ∧ inS ot wo x) ↔ (x < m + 1 ∧ inS ot wo x) := ⟨fun z => ⟨by omega, z.2⟩, fun z => ⟨by omega, z.2⟩⟩
            exact ⟨ite_iff c _ _, ite_iff c _ _⟩
        dsimp only
        split
        · exact fin
        · exact fin
/-- the news that one hears in a call -/
def nwT (w : PP) (rc : Int32) (k8 : Nat → Int32) (wo : Int32) (kN : Nat → Int32) (t x : Nat) : Int32 :=
  if w.a t = wo then 0 else if w.k t = 3 then (if inS rc wo x then kN (tN (w.a t)) else 0) else if w.b t = wo then 0 else
  if x = tN (w.b t) then (if w.k t = 2 then 0 else if w.k t = 4 then kN (tN (w.a t)) &&& (k8 x ^^^ (-1 : Int32)) else kN (tN (w.a t))) else
  if x = tN (w.a t) then (if w.k t = 0 then kN (tN (w.b t)) else if w.k t = 2 then kN (tN (w.b t)) else 0) else 0
/-- what is held of a call -/
def CKO (w : PP) (R : Nat → Int32) (t : Nat) : Prop := (w.a t = nI (tN (w.a t))) ∧ (tN (w.a t) < 7) ∧ (0 ≤ w.k t ∧ w.k t ≤ 4) ∧ (¬ w.k t = 3 → w.b t = nI (tN (w.b t)) ∧ tN (w.b t) < 7 ∧ ¬ tN (w.a t) = tN (w.b t)) ∧ (bt (R t) (tN (w.a t)) = false)
theorem CKO.ea {w : PP} {R : Nat → Int32} {t : Nat} (h : CKO w R t) : w.a t = nI (tN (w.a t)) := h.1
theorem CKO.ha {w : PP} {R : Nat → Int32} {t : Nat} (h : CKO w R t) : tN (w.a t) < 7 := h.2.1
theorem CKO.hk {w : PP} {R : Nat → Int32} {t : Nat} (h : CKO w R t) : 0 ≤ w.k t ∧ w.k t ≤ 4 := h.2.2.1
theorem CKO.hb {w : PP} {R : Nat → Int32} {t : Nat} (h : CKO w R t) : ¬ w.k t = 3 → w.b t = nI (tN (w.b t)) ∧ tN (w.b t) < 7 ∧ ¬ tN (w.a t) = tN (w.b t) := h.2.2.2.1
theorem CKO.hr {w : PP} {R : Nat → Int32} {t : Nat} (h : CKO w R t) : bt (R t) (tN (w.a t)) = false := h.2.2.2.2
theorem kind_at {x : Int32} (h : 0 ≤ x ∧ x ≤ 4) : x = 0 ∨ x = 1 ∨ x = 2 ∨ x = 3 ∨ x = 4 := by
  have h0 := Int32.le_iff_toInt_le.mp h.1
  have h1 := Int32.le_iff_toInt_le.mp h.2
  have z0 : (0 : Int32).toInt = 0 := by decide
  have z4 : (4 : Int32).toInt = 4 := by decide
  rw [z0] at h0
  rw [z4] at h1
  have : x.toInt = 0 ∨ x.toInt = 1 ∨ x.toInt = 2 ∨ x.toInt = 3 ∨ x.toInt = 4 := by omega
  rcases this with e | e | e | e | e
  · exact Or.inl (Int32.toInt_inj.mp (e.trans (by decide)))
  · exact Or.inr (Or.inl (Int32.toInt_inj.mp (e.trans (by decide))))
  · exact Or.inr (Or.inr (Or.inl (Int32.toInt_inj.mp (e.trans (by decide)))))
  · exact Or.inr (Or.inr (Or.inr (Or.inl (Int32.toInt_inj.mp (e.trans (by decide))))))
  · exact Or.inr (Or.inr (Or.inr (Or.inr (Int32.toInt_inj.mp (e.trans (by decide))))))
theorem call_at {yd wo : Int32} {kN tO R k8 : Nat → Int32} {w : PP} {t : Nat} (c : CKO w R t) (inv : ∀ x : Nat, x < 7 → tO x &&& kN x = 0) (x : Nat) (hx : x < 7) : (F_X1_carryCall yd kN tO t wo w.k w.a w.b R k8).2.1 x = tlK (bt yd x) (kN x) (tO x) (nwT w (R t) k8 wo kN t x) ∧ (F_X1_carryCall yd kN tO t wo w.k w.a w.b R k8).2.2 x = tlT (bt yd x) (kN x) (tO x) (nwT w (R t) k8 wo kN t x) := by
  have zero : ∀ nw : Int32, nw = 0 → kN x = tlK (bt yd x) (kN x) (tO x) nw ∧ tO x = tlT (bt yd x) (kN x) (tO x) nw := fun nw e => by
    subst e; rw [tlK_0, tlT_0 (inv x hx)]; exact ⟨rfl, rfl⟩
  have ha := c.ha
  unfold F_X1_carryCall nwT
  rw [← c.ea]
  by_cases c0 : w.a t = wo
  · simp only [if_pos c0]
    exact zero 0 rfl
  simp only [if_neg c0]
  by_cases c3 : w.k t = 3
  · simp only [if_pos c3]
    unfold F_X1_shout
    have h := shout_at (yd := yd) (wo := wo) (kN := kN) (tO := tO) c.hr 7 (Nat.le_refl _) x
    dsimp only
    rw [h.1, h.2]
    by_cases q : inS (R t) wo x
    · simp only [if_pos q, if_pos (And.intro hx q)]
      exact ⟨trivial, trivial⟩
    · simp only [if_neg q, if_neg (fun z : x < 7 ∧ inS (R t) wo x => q z.2)]
      exact zero 0 rfl
  simp only [if_neg c3]
  obtain ⟨eb, hb7, hne⟩ := c.hb c3
  rw [← eb]
  by_cases cb : w.b t = wo
  · simp only [if_pos cb]
    exact zero 0 rfl
  simp only [if_neg cb]
  have one : ∀ (o : Nat) (nw : Int32) (N : Int32), o < 7 → (x = o → N = nw) → (¬ x = o → N = 0) → (F_X1_tell yd kN tO o nw).2.1 x = tlK (bt yd x) (kN x) (tO x) N ∧ (F_X1_tell yd kN tO o nw).2.2 x = tlT (bt yd x) (kN x) (tO x) N := fun o nw N ho h1 h2 => by
    rw [tell_eq (show o < 32 by omega)]
    show upd kN o _ x = _ ∧ upd tO o _ x = _
    by_cases q : x = o
    · rw [h1 q]; subst q; rw [upd_eq, upd_eq]; exact ⟨rfl, rfl⟩
    · rw [upd_ne q, upd_ne q]; exact zero N (h2 q)
  rcases kind_at c.hk with k | k | k | k | k
  · simp only [if_pos k]
    have n2 : ¬ w.k t = 2 := by rw [k]; decide
    have n4 : ¬ w.k t = 4 := by rw [k]; decide
    simp only [if_neg n2, if_neg n4]
    rw [tell_eq (yd := yd) (kN := kN) (tO := tO) (nw := kN (tN (w.a t))) (show tN (w.b t) < 32 by omega)]
    dsimp only
    rw [tell_eq (yd := yd) (nw := kN (tN (w.b t))) (show tN (w.a t) < 32 by omega)]
    rw [upd_ne hne, upd_ne hne]
    dsimp only
    have fin : upd (upd kN (tN (w.b t)) (tlK (bt yd (tN (w.b t))) (kN (tN (w.b t))) (tO (tN (w.b t))) (kN (tN (w.a t))))) (tN (w.a t)) (tlK (bt yd (tN (w.a t))) (kN (tN (w.a t))) (tO (tN (w.a t))) (kN (tN (w.b t)))) x = tlK (bt yd x) (kN x) (tO x) (if x = tN (w.b t) then kN (tN (w.a t)) else if x = tN (w.a t) then kN (tN (w.b t)) else 0) ∧ upd (upd tO (tN (w.b t)) (tlT (bt yd (tN (w.b t))) (kN (tN (w.b t))) (tO (tN (w.b t))) (kN (tN (w.a t))))) (tN (w.a t)) (tlT (bt yd (tN (w.a t))) (kN (tN (w.a t))) (tO (tN (w.a t))) (kN (tN (w.b t)))) x = tlT (bt yd x) (kN x) (tO x) (if x = tN (w.b t) then kN (tN (w.a t)) else if x = tN (w.a t) then kN (tN (w.b t)) else 0) := by
      by_cases q : x = tN (w.b t)
      · have q2 : ¬ x = tN (w.a t) := fun z => hne (z.symm.trans q)
        rw [upd_ne q2, upd_ne q2]
        subst q
        rw [upd_eq, upd_eq, if_pos rfl]; exact ⟨rfl, rfl⟩
      · rw [if_neg q]
        by_cases q2 : x = tN (w.a t)
        · rw [if_pos q2]; subst q2; rw [upd_eq, upd_eq]; exact ⟨rfl, rfl⟩
        · rw [if_neg q2, upd_ne q2, upd_ne q2, upd_ne q, upd_ne q]; exact zero 0 rfl
    generalize (if hrd (kN (tN (w.b t))) (kN (tN (w.a t))) = 0 then (0 : Int32) else 1) = g1
    generalize (if hrd (kN (tN (w.a t))) (kN (tN (w.b t))) = 0 then (0 : Int32) else 1) = g2
    by_cases e1 : g1 = 0
    · rw [if_pos e1]
      by_cases e2 : g2 = 0
      · rw [if_pos e2]; exact fin
      · rw [if_neg e2]; exact fin
    · rw [if_neg e1]; exact fin
  · have n0 : ¬ w.k t = 0 := by rw [k]; decide
    have n2 : ¬ w.k t = 2 := by rw [k]; decide
    have n4 : ¬ w.k t = 4 := by rw [k]; decide
    simp only [if_neg n0, if_pos k, if_neg n2, if_neg n4]
    exact one _ _ _ hb7 (fun q => if_pos q) (fun q => by rw [if_neg q]; split <;> rfl)
  · have n0 : ¬ w.k t = 0 := by rw [k]; decide
    have n1 : ¬ w.k t = 1 := by rw [k]; decide
    simp only [if_neg n0, if_neg n1, if_pos k]
    exact one _ _ _ ha (fun q => by rw [if_neg (fun z => hne (q.symm.trans z)), if_pos q]) (fun q => by rw [if_neg q]; split <;> rfl)
  · exact absurd k c3
  · have n0 : ¬ w.k t = 0 := by rw [k]; decide
    have n1 : ¬ w.k t = 1 := by rw [k]; decide
    have n2 : ¬ w.k t = 2 := by rw [k]; decide
    simp only [if_neg n0, if_neg n1, if_neg n2, if_pos k]
    exact one _ _ _ hb7 (fun q => by rw [if_pos q, q]) (fun q => by rw [if_neg q]; split <;> rfl)
/-! the class's walk over the calls, hour by hour -/
abbrev CS : Type := (Nat → Int32) × (Nat → Int32) × Int64
def hin (f : Nat → CS → CS) (h : Nat → Nat) (H : Nat) : Nat → CS → CS
  | 0, s => s
  | m + 1, s => if h m = H then f m (hin f h H m s) else hin f h H m s
def hrs (f : Nat → CS → CS) (h : Nat → Nat) (c : Nat) : Nat → CS → CS
  | 0, s => s
  | H + 1, s => hin f h H c (hrs f h c H s)
def fo (f : Nat → CS → CS) (o : Nat → Nat) : Nat → CS → CS
  | 0, s => s
  | i + 1, s => f (o i) (fo f o i s)
theorem cl_0 {h : Nat → Nat} : ∀ c : Nat, cl h c 0 = 0
  | 0 => rfl
  | c + 1 => by
    have ih := cl_0 (h := h) c
    show cl h c 0 + (if decide (h c < 0) = true then 1 else 0) = 0
    rw [if_neg (by rw [decide_eq_true_eq]; omega), ih]
theorem fo_hin {f : Nat → CS → CS} {h o : Nat → Nat} {c H : Nat} {s : CS} (ho : ∀ t : Nat, t < c → o (rk h c t) = t) (hH : fo f o (cl h c H) s = hrs f h c H s) : ∀ m : Nat, m ≤ c → fo f o (cl h c H + ce h H m) s = hin f h H m (hrs f h c H s)
  | 0, _ => hH
  | m + 1, hm => by
    have ih := fo_hin ho hH m (by omega)
    have e : ce h H (m + 1) = ce h H m + if decide (h m = H) = true then 1 else 0 := rfl
    rw [e, hin]
    by_cases q : h m = H
    · rw [if_pos (decide_eq_true q), if_pos q, ← ih]
      have r := ho m (by omega)
      unfold rk at r
      rw [q] at r
      show f (o (cl h c H + ce h H m)) (fo f o (cl h c H + ce h H m) s) = f m (fo f o (cl h c H + ce h H m) s)
      rw [r]
    · rw [if_neg (by rw [decide_eq_true_eq]; exact q), if_neg q]; exact ih
theorem fo_hrs {f : Nat → CS → CS} {h o : Nat → Nat} {c : Nat} {s : CS} (ho : ∀ t : Nat, t < c → o (rk h c t) = t) : ∀ H : Nat, fo f o (cl h c H) s = hrs f h c H s
  | 0 => by rw [cl_0]; rfl
  | H + 1 => by rw [cl_succ]; exact fo_hin ho (fo_hrs ho H) c (Nat.le_refl _)
def cS (yd wo : Int32) (w : PP) (R k8 : Nat → Int32) (t : Nat) (s : CS) : CS := ((F_X1_carryCall yd s.1 s.2.1 t wo w.k w.a w.b R k8).2.1, (F_X1_carryCall yd s.1 s.2.1 t wo w.k w.a w.b R k8).2.2, if (F_X1_carryCall yd s.1 s.2.1 t wo w.k w.a w.b R k8).1 = 0 then s.2.2 else s.2.2 ||| ((1 : Int64) <<< ((nI t).toInt64 &&& 63)))
abbrev isL (lo : Int64) (t : Nat) : Prop := ¬ lg_cmp ((lo >>> ((nI t).toInt64 &&& 63)) &&& (1 : Int64)) 0 = 0
def cStep (yd : Int32) (lo : Int64) (wo : Int32) (w : PP) (W R k8 : Nat → Int32) (t : Nat) (s : CS) : CS := if W t = 0 then (if isL lo t then s else cS yd wo w R k8 t s) else s
theorem L2_eq {p z : Nat} {yd wo : Int32} {lo : Int64} {w : PP} {W R k8 : Nat → Int32} {s0 : CS} (hw : PWF p w) (ho : ORD w) (hz : z ≤ 24) : ∀ (m j : Nat) (s : CS), w.c < m + j → j ≤ cl (hn w) w.c (z + 1) → s = fo (cStep yd lo wo w W R k8) (fun i => tN (w.o i)) j s0 → L2_X1_carry w.c yd (nI z) lo wo w.h w.k w.a w.b w.o W R k8 m j s.1 s.2.1 s.2.2 = ((fo (cStep yd lo wo w W R k8) (fun i => tN (w.o i)) (cl (hn w) w.c (z + 1)) s0).1, (fo (cStep yd lo wo w W R k8) (fun i => tN (w.o i)) (cl (hn w) w.c (z + 1)) s0).2.1, yd, (fo (cStep yd lo wo w W R k8) (fun i => tN (w.o i)) (cl (hn w) w.c (z + 1)) s0).2.2)
  | 0, j, s, h1, h2, _ => by
    have : cl (hn w) w.c (z + 1) ≤ w.c := ctB_top _
    omega
  | m + 1, j, s, h1, h2, hs => by
    have hc := hw.1
    have hJ : cl (hn w) w.c (z + 1) ≤ w.c := ctB_top _
    rw [L2_X1_carry]
    by_cases c1 : nI w.c ≤ nI j
    · rw [if_pos c1]
      have c2 := (nI_leI (a := w.c) (b := j) (by omega) (by omega)).mp c1
      have e : j = cl (hn w) w.c (z + 1) := by omega
      rw [← e, ← hs]
    · rw [if_neg c1]
      have c2 : ¬ w.c ≤ j := fun q => c1 ((nI_leI (a := w.c) (b := j) (by omega) (by omega)).mpr q)
      obtain ⟨t, ht, q1, q2⟩ := ho j (by omega)
      have et : tN (w.o j) = t := by rw [q1, tN_nI (by omega)]
      obtain ⟨r0, r1, r2⟩ := hn_of hw ht
      have est : fo (cStep yd lo wo w W R k8) (fun i => tN (w.o i)) (j + 1) s0 = cStep yd lo wo w W R k8 (tN (w.o j)) s := by rw [hs]; rfl
      rw [et] at est
      rw [et]
      by_cases c3 : w.h t ≤ nI z
      · rw [if_pos c3]
        have c4 : hn w t ≤ z := by rw [r0] at c3; exact (nI_leI (by omega) (by omega)).mp c3
        have c5 : j < cl (hn w) w.c (z + 1) := by
          rw [← q2]
          exact Nat.lt_of_lt_of_le (rk_lt ht) (cl_mono (by omega))
        unfold cStep at est
        by_cases v : W t = 0
        · rw [if_pos v] at est ⊢
          by_cases l : isL lo t
          · rw [if_pos l] at est
            rw [if_neg l]
            exact L2_eq hw ho hz m (j + 1) s (by omega) (by omega) est.symm
          · rw [if_neg l] at est
            rw [if_pos (Classical.not_not.mp l)]
            unfold cS at est
            by_cases u : (F_X1_carryCall yd s.1 s.2.1 t wo w.k w.a w.b R k8).1 = 0
            · rw [if_pos u] at est ⊢
              exact L2_eq hw ho hz m (j + 1) (_, _, _) (by omega) (by omega) est.symm
            · rw [if_neg u] at est ⊢
              exact L2_eq hw ho hz m (j + 1) (_, _, _) (by omega) (by omega) est.symm
        · rw [if_neg v] at est ⊢
          exact L2_eq hw ho hz m (j + 1) s (by omega) (by omega) est.symm
      · rw [if_neg c3]
        have c4 : ¬ hn w t ≤ z := fun q => c3 (by rw [r0]; exact (nI_leI (by omega) (by omega)).mpr q)
        have c5 : cl (hn w) w.c (z + 1) ≤ j := by
          rw [← q2]
          exact Nat.le_trans (cl_mono (show z + 1 ≤ hn w t by omega)) (Nat.le_add_right _ _)
        have e : j = cl (hn w) w.c (z + 1) := by omega
        rw [← e, ← hs]
/-- the class's first rows -/
theorem L1c_at {k6 kN tO : Nat → Int32} : ∀ (m x : Nat), (L1_X1_carry k6 kN tO m).1 x = (if x < m then k6 x else kN x) ∧ (L1_X1_carry k6 kN tO m).2 x = (if x < m then 0 else tO x)
  | 0, x => ⟨(if_neg (Nat.not_lt_zero _)).symm, (if_neg (Nat.not_lt_zero _)).symm⟩
  | m + 1, x => by
    have ih := L1c_at (k6 := k6) (kN := kN) (tO := tO) m x
    show upd (L1_X1_carry k6 kN tO m).1 m (k6 m) x = _ ∧ upd (L1_X1_carry k6 kN tO m).2 m 0 x = _
    by_cases e : x = m
    · subst e; rw [upd_eq, upd_eq, if_pos (Nat.lt_succ_self _), if_pos (Nat.lt_succ_self _)]; exact ⟨rfl, rfl⟩
    · rw [upd_ne e, upd_ne e, ih.1, ih.2]
      have c : x < m ↔ x < m + 1 := by omega
      exact ⟨ite_iff c _ _, ite_iff c _ _⟩
/-- where the class's carrying begins, where it comes to -/
def cS0 (k6 kN tO : Nat → Int32) : CS := ((L1_X1_carry k6 kN tO 7).1, (L1_X1_carry k6 kN tO 7).2, 0)
def cHS (yd : Int32) (lo : Int64) (wo : Int32) (w : PP) (W R k8 k6 kN tO : Nat → Int32) (z : Nat) : CS := hrs (cStep yd lo wo w W R k8) (hn w) w.c z (cS0 k6 kN tO)
theorem carry_eq {p z : Nat} {yd wo : Int32} {lo : Int64} {w : PP} {W R k6 k8 kN tO : Nat → Int32} (hw : PWF p w) (ho : ORD w) (hz : z ≤ 24) : F_X1_carry kN tO w.c yd (nI z) lo wo w.h w.k w.a w.b w.o W R k6 k8 = ((cHS yd lo wo w W R k8 k6 kN tO (z + 1)).1, (cHS yd lo wo w W R k8 k6 kN tO (z + 1)).2.1, yd, (cHS yd lo wo w W R k8 k6 kN tO (z + 1)).2.2) := by
  have h := L2_eq (yd := yd) (wo := wo) (lo := lo) (W := W) (R := R) (k8 := k8) (s0 := cS0 k6 kN tO) hw ho hz (w.c + 1) 0 (cS0 k6 kN tO) (by omega) (Nat.zero_le _) rfl
  rw [fo_hrs (o := fun i => tN (w.o i)) (fun t ht => by show tN (w.o _) = t; have := hw.1; rw [ord_at ho ht, tN_nI (by omega)])] at h
  exact h

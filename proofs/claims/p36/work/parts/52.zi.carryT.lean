/-! news carried: one told -/
theorem hvb_0 {x : Int32} {b : Nat} (hb : b < 32) : hasv x (nI b) = 0 ↔ bt x b = false := by
  constructor
  · intro h
    cases e : bt x b with
    | false => rfl
    | true => exact absurd h ((bt_hasv hb).mpr e)
  · intro h
    by_cases e : hasv x (nI b) = 0
    · exact e
    · rw [(bt_hasv hb).mp e] at h; cases h
theorem shr_0 {x : Int32} {b : Nat} (hb : b < 32) : (x >>> (nI b &&& 31)) &&& 1 = 0 ↔ bt x b = false := by
  rw [← hvb_0 hb]
  unfold hasv
  by_cases e : (x >>> (nI b &&& 31)) &&& 1 = 0
  · rw [if_pos e]; exact ⟨fun _ => rfl, fun _ => e⟩
  · rw [if_neg e]; exact ⟨fun q => absurd q e, fun q => absurd q (by decide)⟩
theorem b_nt (x : Int32) {i : Nat} (hi : i < 32) : bt (x ^^^ (-1 : Int32)) i = !bt x i := by rw [b_xor, b_m1 i hi, Bool.xor_true]
/-! one shouts -/
/-- what is held of a call -/
def CKO (w : PP) (R : Nat → Int32) (t : Nat) : Prop := (w.a t = nI (tN (w.a t))) ∧ (tN (w.a t) < 7) ∧ (0 ≤ w.k t ∧ w.k t ≤ 4) ∧ (¬ w.k t = 3 → w.b t = nI (tN (w.b t)) ∧ tN (w.b t) < 7 ∧ ¬ tN (w.a t) = tN (w.b t)) ∧ (bt (R t) (tN (w.a t)) = false)
theorem CKO.ea {w : PP} {R : Nat → Int32} {t : Nat} (h : CKO w R t) : w.a t = nI (tN (w.a t)) := h.1
theorem CKO.ha {w : PP} {R : Nat → Int32} {t : Nat} (h : CKO w R t) : tN (w.a t) < 7 := h.2.1
theorem CKO.hk {w : PP} {R : Nat → Int32} {t : Nat} (h : CKO w R t) : 0 ≤ w.k t ∧ w.k t ≤ 4 := h.2.2.1
theorem CKO.hb {w : PP} {R : Nat → Int32} {t : Nat} (h : CKO w R t) : ¬ w.k t = 3 → w.b t = nI (tN (w.b t)) ∧ tN (w.b t) < 7 ∧ ¬ tN (w.a t) = tN (w.b t) := h.2.2.2.1
theorem CKO.hr {w : PP} {R : Nat → Int32} {t : Nat} (h : CKO w R t) : bt (R t) (tN (w.a t)) = false := h.2.2.2.2
/-! the class's walk over the calls, hour by hour -/
abbrev CS : Type := (Nat → Int32) × (Nat → Int32) × Int64
def hin (f : Nat → CS → CS) (h : Nat → Nat) (H : Nat) : Nat → CS → CS
  | 0, s => s
  | m + 1, s => if h m = H then f m (hin f h H m s) else hin f h H m s
def hrs (f : Nat → CS → CS) (h : Nat → Nat) (c : Nat) : Nat → CS → CS
  | 0, s => s
  | H + 1, s => hin f h H c (hrs f h c H s)
def fo (f : Nat → CS → CS) (o : Nat → Nat) : Nat → CS → CS
  | 0, s => s
  | i + 1, s => f (o i) (fo f o i s)

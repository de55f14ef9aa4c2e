/-! what the valleys hold, on both sides -/
/-- a valley: people, lines, who is deaf, who knows, must, must not; lines, cards, their lengths, tales -/
abbrev VV : Type := Nat × Nat × Int32 × (Nat → Int32) × (Nat → Int32) × (Nat → Int32) × (Nat → Int32) × (Nat → Int32) × (Nat → Int32) × (Nat → Int32)
def VV.p (w : VV) : Nat := w.1
def VV.lc (w : VV) : Nat := w.2.1
def VV.de (w : VV) : Int32 := w.2.2.1
def VV.kn (w : VV) : Nat → Int32 := w.2.2.2.1
def VV.mu (w : VV) : Nat → Int32 := w.2.2.2.2.1
def VV.mn (w : VV) : Nat → Int32 := w.2.2.2.2.2.1
def VV.L (w : VV) : Nat → Int32 := w.2.2.2.2.2.2.1
def VV.cd (w : VV) : Nat → Int32 := w.2.2.2.2.2.2.2.1
def VV.cl (w : VV) : Nat → Int32 := w.2.2.2.2.2.2.2.2.1
def VV.ta (w : VV) : Nat → Int32 := w.2.2.2.2.2.2.2.2.2
def VV.sL (w : VV) (L9 : Nat → Int32) : VV := (w.p, w.lc, w.de, w.kn, w.mu, w.mn, L9, w.cd, w.cl, w.ta)
def VV.scc (w : VV) (cd9 : Nat → Int32) (cl9 : Nat → Int32) : VV := (w.p, w.lc, w.de, w.kn, w.mu, w.mn, w.L, cd9, cl9, w.ta)
def VV.scl (w : VV) (cl9 : Nat → Int32) : VV := (w.p, w.lc, w.de, w.kn, w.mu, w.mn, w.L, w.cd, cl9, w.ta)
def VV.sta (w : VV) (ta9 : Nat → Int32) : VV := (w.p, w.lc, w.de, w.kn, w.mu, w.mn, w.L, w.cd, w.cl, ta9)
/-- which news are of one: the class's own rows -/
def nwr (r : Nat → Int32) : Nat → Int32 := fun j => F_X10_newsOfOne r (nI j)
/-- whom one may call: the class's own row -/
def kx (w : VV) : Nat → Int32 := F_X10_lookAtLines w.lc w.L
def vset (V : Nat → VV) (i : Nat) (w : VV) : Nat → VV := fun j => if j = i then w else V j
theorem vset_eq {V : Nat → VV} {i : Nat} {w : VV} : vset V i w i = w := if_pos rfl
theorem vset_ne {V : Nat → VV} {i j : Nat} {w : VV} (h : j ≠ i) : vset V i w j = V j := if_neg h
def VWc (g : GG) (v : Nat) (w : VV) (gl : Int32) (v15 : Nat) : va_W := [(v, .inr (10, [.int (nI w.p), .int (nI w.lc), .int w.de, .ref (v + 1), .ref (v + 2), .ref (v + 3), .ref (v + 4), .ref (v + 5), .ref (v + 6), .ref (v + 7), .ref (v + 8), .ref (v + 9), .ref (v + 10), .ref (v + 11), .int gl, .ref v15])), (v + 1, .inl (g.2.1 1, 4, .inl w.kn)), (v + 2, .inl (g.2.1 1, 4, .inl w.mu)), (v + 3, .inl (g.2.1 1, 4, .inl w.mn)), (v + 4, .inl (g.2.1 1, 7, .inl (nwr w.kn))), (v + 5, .inl (g.2.1 1, 7, .inl (nwr w.mu))), (v + 6, .inl (g.2.1 1, 7, .inl (nwr w.mn))), (v + 7, .inl (g.2.1 1, 72, .inl w.L)), (v + 8, .inl (g.2.1 1, 175, .inl (kx w))), (v + 9, .inl (g.2.1 1, 42, .inl w.cd)), (v + 10, .inl (g.2.1 1, 7, .inl w.cl)), (v + 11, .inl (g.2.1 1, 28, .inl w.ta))]
/-- the class's valley at its place -/
def VC (g : GG) (v : Nat) (w : VV) (H : Heap) : Prop := ∃ (gl : Int32) (v15 : Nat), va_P g.1 CLS (VWc g v w gl v15) H
/-- what is always so -/
def VOK (w : VV) : Prop := w.p ≤ 7 ∧ w.lc ≤ 12 ∧ endsIn w.L w.lc w.p ∧ ∀ j : Nat, j < 7 → w.cl j = nI (tN (w.cl j)) ∧ tN (w.cl j) ≤ 6
def BLK (Γ : Nat → Nat) (a : Nat) : Prop := Γ a = 3 ∧ ∀ m : Nat, 1 ≤ m → m ≤ 11 → 23 ≤ Γ (a + m) ∧ Γ (a + m) ≤ 29
/-- the cards of the valley into which a text is read are empty -/
def SPC (g : GG) (x0 sp : Nat) (H : Heap) : Prop := FE g x0 11 10 H (.ref sp) ∧ FE g sp 10 12 H (.ref (sp + 10)) ∧ AT g 1 7 (sp + 10) (fun _ => 0) H
def SPB (Γ : Nat → Nat) (sp : Nat) : Prop := Γ sp = 13 ∧ Γ (sp + 10) = 28 ∧ ∀ m : Nat, 1 ≤ m → m ≤ 11 → Γ (sp + m) ≠ 3
def RCV (g : GG) (x0 nv : Nat) (V : Nat → VV) (H : Heap) : Prop := ∃ (va : Nat) (fA : Nat → Option Nat) (sp : Nat), FE g x0 11 1 H (.ref va) ∧ RFA g va 4 10 fA H ∧ (∀ i : Nat, i < nv → VOK (V i) ∧ ∃ a, fA i = some a ∧ VC g a (V i) H) ∧ (∀ i j a : Nat, i < nv → j < nv → fA i = some a → fA j = some a → i = j) ∧ SPC g x0 sp H
def VCL : List (Nat × Nat) := [(3, 0), (3, 1), (3, 2), (3, 3), (3, 4), (3, 5), (3, 6), (3, 7), (3, 8), (3, 9), (3, 10), (3, 11), (3, 12), (3, 13), (23, 0), (24, 0), (25, 0), (26, 0), (27, 0), (28, 0), (29, 0)]
section
variable {g : GG} {Γ Γ1 : Nat → Nat} {H H1 : Heap} {x0 nv a v : Nat} {w : VV} {V : Nat → VV} {mods : List (Nat × Nat)}
theorem VC.tags (h : VC g v w H) (hT : HT g TS0 Γ H) (tv : Γ v = 3) : Γ (v + 1) = 23 ∧ Γ (v + 2) = 23 ∧ Γ (v + 3) = 23 ∧ Γ (v + 4) = 24 ∧ Γ (v + 5) = 24 ∧ Γ (v + 6) = 24 ∧ Γ (v + 7) = 25 ∧ Γ (v + 8) = 26 ∧ Γ (v + 9) = 27 ∧ Γ (v + 10) = 28 ∧ Γ (v + 11) = 29 := by
  obtain ⟨gl, v15, hP⟩ := h
  have A := hP 0 _ rfl
  exact ⟨(ref_tag (k := 3) (u := 23) hT tv (by decide) rfl rfl (FE_at (k := 3) A rfl (by decide) rfl)).1, (ref_tag (k := 4) (u := 23) hT tv (by decide) rfl rfl (FE_at (k := 4) A rfl (by decide) rfl)).1, (ref_tag (k := 5) (u := 23) hT tv (by decide) rfl rfl (FE_at (k := 5) A rfl (by decide) rfl)).1, (ref_tag (k := 6) (u := 24) hT tv (by decide) rfl rfl (FE_at (k := 6) A rfl (by decide) rfl)).1, (ref_tag (k := 7) (u := 24) hT tv (by decide) rfl rfl (FE_at (k := 7) A rfl (by decide) rfl)).1, (ref_tag (k := 8) (u := 24) hT tv (by decide) rfl rfl (FE_at (k := 8) A rfl (by decide) rfl)).1, (ref_tag (k := 9) (u := 25) hT tv (by decide) rfl rfl (FE_at (k := 9) A rfl (by decide) rfl)).1, (ref_tag (k := 10) (u := 26) hT tv (by decide) rfl rfl (FE_at (k := 10) A rfl (by decide) rfl)).1, (ref_tag (k := 11) (u := 27) hT tv (by decide) rfl rfl (FE_at (k := 11) A rfl (by decide) rfl)).1, (ref_tag (k := 12) (u := 28) hT tv (by decide) rfl rfl (FE_at (k := 12) A rfl (by decide) rfl)).1, (ref_tag (k := 13) (u := 29) hT tv (by decide) rfl rfl (FE_at (k := 13) A rfl (by decide) rfl)).1⟩
theorem VC.blk (h : VC g v w H) (hT : HT g TS0 Γ H) (tv : Γ v = 3) : BLK Γ v := by
  obtain ⟨s1, s2, s3, s4, s5, s6, s7, s8, s9, s10, s11⟩ := h.tags hT tv
  refine ⟨tv, fun m h1 h2 => ?_⟩
  match m, h1, h2 with
  | 1, _, _ => rw [s1]; decide
  | 2, _, _ => rw [s2]; decide
  | 3, _, _ => rw [s3]; decide
  | 4, _, _ => rw [s4]; decide
  | 5, _, _ => rw [s5]; decide
  | 6, _, _ => rw [s6]; decide
  | 7, _, _ => rw [s7]; decide
  | 8, _, _ => rw [s8]; decide
  | 9, _, _ => rw [s9]; decide
  | 10, _, _ => rw [s10]; decide
  | 11, _, _ => rw [s11]; decide
  | m + 12, _, h2 => exact absurd h2 (by omega)
theorem VC.keep (h : VC g v w H) (hT : HT g TS0 Γ H) (hT1 : HT g TS0 Γ H1) (tv : Γ v = 3) (hu : Un g TS0 Γ mods H H1) (hm : mdn VCL mods = true) : VC g v w H1 := by
  obtain ⟨s1, s2, s3, s4, s5, s6, s7, s8, s9, s10, s11⟩ := h.tags hT tv
  obtain ⟨gl, v15, hP⟩ := h
  obtain ⟨i0, i1, i2, b3, b4, b5, b6, b7, b8, b9, b10, b11, b12, b13, i14, b15, A1, -⟩ := DV3 hT1 tv
  cases FE_fun (FE_at (k := 0) A1 rfl (by decide) rfl) (hu.fld tv (by decide) rfl (mdn_at hm (by decide)) (FE_at (k := 0) (hP 0 _ rfl) rfl (by decide) rfl))
  cases FE_fun (FE_at (k := 1) A1 rfl (by decide) rfl) (hu.fld tv (by decide) rfl (mdn_at hm (by decide)) (FE_at (k := 1) (hP 0 _ rfl) rfl (by decide) rfl))
  cases FE_fun (FE_at (k := 2) A1 rfl (by decide) rfl) (hu.fld tv (by decide) rfl (mdn_at hm (by decide)) (FE_at (k := 2) (hP 0 _ rfl) rfl (by decide) rfl))
  cases FE_fun (FE_at (k := 3) A1 rfl (by decide) rfl) (hu.fld tv (by decide) rfl (mdn_at hm (by decide)) (FE_at (k := 3) (hP 0 _ rfl) rfl (by decide) rfl))
  cases FE_fun (FE_at (k := 4) A1 rfl (by decide) rfl) (hu.fld tv (by decide) rfl (mdn_at hm (by decide)) (FE_at (k := 4) (hP 0 _ rfl) rfl (by decide) rfl))
  cases FE_fun (FE_at (k := 5) A1 rfl (by decide) rfl) (hu.fld tv (by decide) rfl (mdn_at hm (by decide)) (FE_at (k := 5) (hP 0 _ rfl) rfl (by decide) rfl))
  cases FE_fun (FE_at (k := 6) A1 rfl (by decide) rfl) (hu.fld tv (by decide) rfl (mdn_at hm (by decide)) (FE_at (k := 6) (hP 0 _ rfl) rfl (by decide) rfl))
  cases FE_fun (FE_at (k := 7) A1 rfl (by decide) rfl) (hu.fld tv (by decide) rfl (mdn_at hm (by decide)) (FE_at (k := 7) (hP 0 _ rfl) rfl (by decide) rfl))
  cases FE_fun (FE_at (k := 8) A1 rfl (by decide) rfl) (hu.fld tv (by decide) rfl (mdn_at hm (by decide)) (FE_at (k := 8) (hP 0 _ rfl) rfl (by decide) rfl))
  cases FE_fun (FE_at (k := 9) A1 rfl (by decide) rfl) (hu.fld tv (by decide) rfl (mdn_at hm (by decide)) (FE_at (k := 9) (hP 0 _ rfl) rfl (by decide) rfl))
  cases FE_fun (FE_at (k := 10) A1 rfl (by decide) rfl) (hu.fld tv (by decide) rfl (mdn_at hm (by decide)) (FE_at (k := 10) (hP 0 _ rfl) rfl (by decide) rfl))
  cases FE_fun (FE_at (k := 11) A1 rfl (by decide) rfl) (hu.fld tv (by decide) rfl (mdn_at hm (by decide)) (FE_at (k := 11) (hP 0 _ rfl) rfl (by decide) rfl))
  cases FE_fun (FE_at (k := 12) A1 rfl (by decide) rfl) (hu.fld tv (by decide) rfl (mdn_at hm (by decide)) (FE_at (k := 12) (hP 0 _ rfl) rfl (by decide) rfl))
  cases FE_fun (FE_at (k := 13) A1 rfl (by decide) rfl) (hu.fld tv (by decide) rfl (mdn_at hm (by decide)) (FE_at (k := 13) (hP 0 _ rfl) rfl (by decide) rfl))
  exact ⟨i14, b15, vaP_cons A1 (vaP_cons (va_at.kept (hP 1 _ rfl) (hu.arr s1 (by decide) rfl (mdn_at hm (by decide)))) (vaP_cons (va_at.kept (hP 2 _ rfl) (hu.arr s2 (by decide) rfl (mdn_at hm (by decide)))) (vaP_cons (va_at.kept (hP 3 _ rfl) (hu.arr s3 (by decide) rfl (mdn_at hm (by decide)))) (vaP_cons (va_at.kept (hP 4 _ rfl) (hu.arr s4 (by decide) rfl (mdn_at hm (by decide)))) (vaP_cons (va_at.kept (hP 5 _ rfl) (hu.arr s5 (by decide) rfl (mdn_at hm (by decide)))) (vaP_cons (va_at.kept (hP 6 _ rfl) (hu.arr s6 (by decide) rfl (mdn_at hm (by decide)))) (vaP_cons (va_at.kept (hP 7 _ rfl) (hu.arr s7 (by decide) rfl (mdn_at hm (by decide)))) (vaP_cons (va_at.kept (hP 8 _ rfl) (hu.arr s8 (by decide) rfl (mdn_at hm (by decide)))) (vaP_cons (va_at.kept (hP 9 _ rfl) (hu.arr s9 (by decide) rfl (mdn_at hm (by decide)))) (vaP_cons (va_at.kept (hP 10 _ rfl) (hu.arr s10 (by decide) rfl (mdn_at hm (by decide)))) (vaP_cons (va_at.kept (hP 11 _ rfl) (hu.arr s11 (by decide) rfl (mdn_at hm (by decide)))) vaP_nil)))))))))))⟩
theorem VC.kept (h : VC g v w H) (e : ∀ m : Nat, m ≤ 11 → H1[v + m]? = H[v + m]?) : VC g v w H1 := by
  obtain ⟨gl, v15, hP⟩ := h
  exact ⟨gl, v15, vaP_cons (va_at.kept (hP 0 _ rfl) (e 0 (by omega))) (vaP_cons (va_at.kept (hP 1 _ rfl) (e 1 (by omega))) (vaP_cons (va_at.kept (hP 2 _ rfl) (e 2 (by omega))) (vaP_cons (va_at.kept (hP 3 _ rfl) (e 3 (by omega))) (vaP_cons (va_at.kept (hP 4 _ rfl) (e 4 (by omega))) (vaP_cons (va_at.kept (hP 5 _ rfl) (e 5 (by omega))) (vaP_cons (va_at.kept (hP 6 _ rfl) (e 6 (by omega))) (vaP_cons (va_at.kept (hP 7 _ rfl) (e 7 (by omega))) (vaP_cons (va_at.kept (hP 8 _ rfl) (e 8 (by omega))) (vaP_cons (va_at.kept (hP 9 _ rfl) (e 9 (by omega))) (vaP_cons (va_at.kept (hP 10 _ rfl) (e 10 (by omega))) (vaP_cons (va_at.kept (hP 11 _ rfl) (e 11 (by omega))) vaP_nil)))))))))))⟩
/-- a valley's cells are none of another one's -/
theorem blk_ne {b m m' : Nat} (ha : BLK Γ a) (hb : BLK Γ b) (hne : a ≠ b) (h : m ≤ 11) (h' : m' ≤ 11) : a + m ≠ b + m' := fun e => by
  rcases Nat.lt_or_gt_of_ne hne with hlt | hlt
  · have h1 := ha.2 (b - a) (by omega) (by omega)
    rw [show a + (b - a) = b by omega, hb.1] at h1
    omega
  · have h1 := hb.2 (a - b) (by omega) (by omega)
    rw [show b + (a - b) = a by omega, ha.1] at h1
    omega
theorem blk_tag {m : Nat} (ha : BLK Γ a) (h : m ≤ 11) : Γ (a + m) = 3 ∨ (23 ≤ Γ (a + m) ∧ Γ (a + m) ≤ 29) := by
  by_cases h0 : m = 0
  · subst h0; exact Or.inl ha.1
  · exact Or.inr (ha.2 m (by omega) h)
/-- what a call touches: cells that are no valley's, and these places of one valley -/
def WIN (Γ : Nat → Nat) (a : Nat) (l : List Nat) (ws : va_W) : Prop := ∀ (k : Nat) (q : Nat) (e : va_E), ws[k]? = some (q, e) → (Γ q ≠ 3 ∧ (Γ q < 23 ∨ 29 < Γ q)) ∨ ∃ m ∈ l, q = a + m
theorem win_other {b m : Nat} {l : List Nat} {ws : va_W} (ha : BLK Γ a) (hb : BLK Γ b) (hne : b ≠ a) (hw : WIN Γ a l ws) (hl : ∀ m ∈ l, m ≤ 11) (hm : m ≤ 11) (hT : HT g TS0 Γ H) (hk : ∀ q : Nat, q < H.size → ¬ va_A ws H.size q → H1[q]? = H[q]?) : H1[b + m]? = H[b + m]? := by
  have hlt : b + m < H.size := hT.lt (by rcases blk_tag hb hm with h | h <;> omega)
  refine hk _ hlt fun hA => ?_
  rcases hA with ⟨k, e, hq⟩ | hA
  · rcases hw k _ e hq with ⟨h1, h2⟩ | ⟨m', hm', h1⟩
    · rcases blk_tag hb hm with h | h <;> omega
    · exact blk_ne hb ha hne hm (hl m' hm') h1
  · omega
theorem win_same {m : Nat} {l : List Nat} {ws : va_W} (ha : BLK Γ a) (hw : WIN Γ a l ws) (hl : ∀ m ∈ l, m ≤ 11) (hm : m ≤ 11) (hml : m ∉ l) (hT : HT g TS0 Γ H) (hk : ∀ q : Nat, q < H.size → ¬ va_A ws H.size q → H1[q]? = H[q]?) : H1[a + m]? = H[a + m]? := by
  have hlt : a + m < H.size := hT.lt (by rcases blk_tag ha hm with h | h <;> omega)
  refine hk _ hlt fun hA => ?_
  rcases hA with ⟨k, e, hq⟩ | hA
  · rcases hw k _ e hq with ⟨h1, h2⟩ | ⟨m', hm', h1⟩
    · rcases blk_tag ha hm with h | h <;> omega
    · have : m = m' := by omega
      subst this
      exact hml hm'
  · omega
theorem RCV.tag {va : Nat} {fA : Nat → Option Nat} (hT : HT g TS0 Γ H) (tx : Γ x0 = 1) (h1 : FE g x0 11 1 H (.ref va)) (h9 : RFA g va 4 10 fA H) {i : Nat} (hi : i < 10) (hA : fA i = some a) : Γ a = 3 :=
  (RFA_tag hT (ref_tag (k := 1) (u := 20) hT tx (by decide) rfl rfl h1).1 (by decide) rfl (Or.inl rfl) h9 hi hA).1
theorem spb_of {sp : Nat} (hT : HT g TS0 Γ H) (es : Γ sp = 13) (h : ∀ j : Nat, j < 11 → FE g sp 10 (3 + j) H (.ref (sp + 1 + j))) : SPB Γ sp := by
  obtain ⟨s1, s2, s3, s4, s5, s6, s7, s8, s9, s10, s11⟩ := spare_tags hT es h
  refine ⟨es, s10, fun m h1 h2 => ?_⟩
  match m, h1, h2 with
  | 1, _, _ => rw [s1]; decide
  | 2, _, _ => rw [s2]; decide
  | 3, _, _ => rw [s3]; decide
  | 4, _, _ => rw [s4]; decide
  | 5, _, _ => rw [s5]; decide
  | 6, _, _ => rw [s6]; decide
  | 7, _, _ => rw [s7]; decide
  | 8, _, _ => rw [s8]; decide
  | 9, _, _ => rw [s9]; decide
  | 10, _, _ => rw [s10]; decide
  | 11, _, _ => rw [s11]; decide
  | m + 12, _, h2 => exact absurd h2 (by omega)
theorem win_sp {sp : Nat} {l : List Nat} {ws : va_W} (hs : SPB Γ sp) (ha : BLK Γ a) (hw : WIN Γ a l ws) (hl : ∀ m ∈ l, m ≤ 11) (hT : HT g TS0 Γ H) (hk : ∀ q : Nat, q < H.size → ¬ va_A ws H.size q → H1[q]? = H[q]?) : H1[sp + 10]? = H[sp + 10]? := by
  have hlt : sp + 10 < H.size := hT.lt (by rw [hs.2.1]; decide)
  refine hk _ hlt fun hA => ?_
  rcases hA with ⟨k, e, hq⟩ | hA
  · rcases hw k _ e hq with ⟨h1, h2⟩ | ⟨m', hm', h1⟩
    · rw [hs.2.1] at h2
      omega
    · have hm := hl m' hm'
      rcases Nat.lt_trichotomy a sp with h | h | h
      · have h3 := ha.2 (sp - a) (by omega) (by omega)
        rw [show a + (sp - a) = sp by omega, hs.1] at h3
        omega
      · have h3 := ha.1
        rw [h, hs.1] at h3
        omega
      · have h3 := hs.2.2 (a - sp) (by omega) (by omega)
        rw [show sp + (a - sp) = a by omega] at h3
        exact h3 ha.1
  · omega
theorem RCV.keep (h : RCV g x0 nv V H) (hnv : nv ≤ 10) (hT : HT g TS0 Γ H) (hT1 : HT g TS0 Γ H1) (tx : Γ x0 = 1) (hu : Un g TS0 Γ mods H H1) (hm : mdn ((1, 1) :: (20, 0) :: (1, 10) :: (13, 12) :: VCL) mods = true) : RCV g x0 nv V H1 := by
  obtain ⟨va, fA, sp, h1, h9, h10, h14, h15, h16, h17⟩ := h
  have es := (ref_tag (k := 10) (u := 13) hT tx (by decide) rfl rfl h15).1
  have e28 := (ref_tag (k := 12) (u := 28) hT es (by decide) rfl rfl h16).1
  have ta := (ref_tag (k := 1) (u := 20) hT tx (by decide) rfl rfl h1).1
  have hm2 : mdn VCL mods = true := by
    have := List.all_eq_true.mp hm
    exact List.all_eq_true.mpr fun q hq => this q (List.mem_cons_of_mem _ (List.mem_cons_of_mem _ (List.mem_cons_of_mem _ (List.mem_cons_of_mem _ hq))))
  refine ⟨va, fA, sp, hu.fld tx (by decide) rfl (mdn_at hm (by decide)) h1, h9.kept (hu.arr ta (by decide) rfl (mdn_at hm (by decide))), fun i hi => ?_, h14, hu.fld tx (by decide) rfl (mdn_at hm (by decide)) h15, hu.fld es (by decide) rfl (mdn_at hm (by decide)) h16, h17.kept (hu.arr e28 (by decide) rfl (mdn_at hm (by decide)))⟩
  obtain ⟨ok, a, hA, hV⟩ := h10 i hi
  exact ⟨ok, a, hA, hV.keep hT hT1 (RCV.tag hT tx h1 h9 (by omega) hA) hu hm2⟩
/-- one valley may have changed -/
theorem RCV.upd {va i sp : Nat} {fA : Nat → Option Nat} {l : List Nat} {ws : va_W} (hnv : nv ≤ 10) (hT : HT g TS0 Γ H) (tx : Γ x0 = 1) (h1 : FE g x0 11 1 H (.ref va)) (h9 : RFA g va 4 10 fA H) (h10 : ∀ i : Nat, i < nv → VOK (V i) ∧ ∃ a, fA i = some a ∧ VC g a (V i) H) (h14 : ∀ i j a : Nat, i < nv → j < nv → fA i = some a → fA j = some a → i = j) (hi : i < nv) (hA : fA i = some a) (hw : WIN Γ a l ws) (hl : ∀ m ∈ l, m ≤ 11) (hk : ∀ q : Nat, q < H.size → ¬ va_A ws H.size q → H1[q]? = H[q]?) (y1 : FE g x0 11 1 H1 (.ref va)) (y9 : RFA g va 4 10 fA H1) (hs : SPC g x0 sp H1) (hok : VOK w) (hnew : VC g a w H1) : RCV g x0 nv (vset V i w) H1 := by
  have tg : ∀ {i b : Nat}, i < nv → fA i = some b → Γ b = 3 := fun h h' => RCV.tag hT tx h1 h9 (by omega) h'
  refine ⟨va, fA, sp, y1, y9, fun j hj => ?_, h14, hs⟩
  by_cases hji : j = i
  · subst hji
    rw [vset_eq]
    exact ⟨hok, a, hA, hnew⟩
  · rw [vset_ne hji]
    obtain ⟨ok, b, hB, hV⟩ := h10 j hj
    obtain ⟨-, a', hA', hVa⟩ := h10 i hi
    cases hA.symm.trans hA'
    exact ⟨ok, b, hB, hV.kept fun m hm => win_other (hVa.blk hT (tg hi hA)) (hV.blk hT (tg hj hB)) (fun e => hji (h14 j i b hj hi hB (by rw [e]; exact hA))) hw hl hm hT hk⟩
/-- none has changed -/
theorem RCV.same {va sp : Nat} {fA : Nat → Option Nat} {ws : va_W} (hnv : nv ≤ 10) (hT : HT g TS0 Γ H) (tx : Γ x0 = 1) (h1 : FE g x0 11 1 H (.ref va)) (h9 : RFA g va 4 10 fA H) (h10 : ∀ i : Nat, i < nv → VOK (V i) ∧ ∃ a, fA i = some a ∧ VC g a (V i) H) (h14 : ∀ i j a : Nat, i < nv → j < nv → fA i = some a → fA j = some a → i = j) (hw : ∀ a : Nat, WIN Γ a [] ws) (hk : ∀ q : Nat, q < H.size → ¬ va_A ws H.size q → H1[q]? = H[q]?) (y1 : FE g x0 11 1 H1 (.ref va)) (y9 : RFA g va 4 10 fA H1) (hs : SPC g x0 sp H1) : RCV g x0 nv V H1 := by
  refine ⟨va, fA, sp, y1, y9, fun j hj => ?_, h14, hs⟩
  obtain ⟨ok, b, hB, hV⟩ := h10 j hj
  have hb := hV.blk hT (RCV.tag hT tx h1 h9 (by omega) hB)
  exact ⟨ok, b, hB, hV.kept fun m hm => win_same hb (hw b) (fun _ h => absurd h List.not_mem_nil) hm List.not_mem_nil hT hk⟩
theorem win_cons {l : List Nat} {ws : va_W} {q : Nat} {e : va_E} (h : (Γ q ≠ 3 ∧ (Γ q < 23 ∨ 29 < Γ q)) ∨ ∃ m ∈ l, q = a + m) (hw : WIN Γ a l ws) : WIN Γ a l ((q, e) :: ws) := fun k q' e' hq => by
  cases k with
  | zero => cases hq; exact h
  | succ k => exact hw k q' e' hq
theorem win_nil {l : List Nat} : WIN Γ a l [] := fun k q e h => by cases k <;> cases h
theorem win_t {l : List Nat} {q t : Nat} (h : Γ q = t) (ht : t ≠ 3 ∧ (t < 23 ∨ 29 < t)) : (Γ q ≠ 3 ∧ (Γ q < 23 ∨ 29 < Γ q)) ∨ ∃ m ∈ l, q = a + m := Or.inl (by rw [h]; exact ht)
end
/-- what a call answers that looks at one valley, and what becomes of it -/
def vAns (nv : Nat) (V : Nat → VV) (x no : Int32) (f : VV → Int32) : Int32 := if F_X12_isValley nv x = 0 then no else f (V (tN x))
def vNew (nv : Nat) (V : Nat → VV) (x : Int32) (f : VV → VV) : Nat → VV := if F_X12_isValley nv x = 0 then V else vset V (tN x) (f (V (tN x)))
theorem vAns_no {nv : Nat} {V : Nat → VV} {x no : Int32} {f : VV → Int32} (h : x < 0 ∨ nI nv ≤ x) : vAns nv V x no f = no := if_pos (rv_no h)
theorem vNew_no {nv : Nat} {V : Nat → VV} {x : Int32} {f : VV → VV} (h : x < 0 ∨ nI nv ≤ x) : vNew nv V x f = V := if_pos (rv_no h)
theorem vAns_ok {nv i : Nat} {V : Nat → VV} {no : Int32} {f : VV → Int32} (hn : nv ≤ 10) (h : i < nv) : vAns nv V (nI i) no f = f (V i) := by
  unfold vAns
  rw [if_neg (by rw [rv_ok (by omega) h]; decide), tN_nI (by omega)]
theorem vNew_ok {nv i : Nat} {V : Nat → VV} {f : VV → VV} (hn : nv ≤ 10) (h : i < nv) : vNew nv V (nI i) f = vset V i (f (V i)) := by
  unfold vNew
  rw [if_neg (by rw [rv_ok (by omega) h]; decide), tN_nI (by omega)]

/-! blocks, their measures and their ends -/
abbrev MF : Type := Int × List (Nat × Int)
/-- a node: pc, locals, stack, measure, how many instructions, callees, what follows, a local that is split (less 1) -/
abbrev NODE : Type := Nat × List (Nat × AV) × List AV × MF × Nat × List Nat × List Nat × Nat
def lval (vl : List (Nat × Value)) (j : Nat) : Int := match lka vl j with
  | some (.int x) => x.toInt
  | _ => 0
def fv (vl : List (Nat × Value)) : List (Nat × Int) → Int
  | [] => 0
  | (j, c) :: r => c * lval vl j + fv vl r
def mv (vl : List (Nat × Value)) (F : MF) : Int := F.1 + fv vl F.2
def addt (j : Nat) (c : Int) : List (Nat × Int) → List (Nat × Int)
  | [] => [(j, c)]
  | (i, d) :: r => bif Nat.beq i j then (i, d + c) :: r else (i, d) :: addt j c r
theorem fv_addt (vl : List (Nat × Value)) (j : Nat) (c : Int) : ∀ l, fv vl (addt j c l) = c * lval vl j + fv vl l
  | [] => rfl
  | (i, d) :: r => by
    rw [addt]
    cases h : Nat.beq i j with
    | true =>
      have e := Nat.eq_of_beq_eq_true h
      subst e
      show (d + c) * lval vl i + fv vl r = c * lval vl i + (d * lval vl i + fv vl r)
      rw [Int.add_mul]; omega
    | false =>
      show d * lval vl i + fv vl (addt j c r) = c * lval vl j + (d * lval vl i + fv vl r)
      rw [fv_addt vl j c r]; omega
def mrg : List (Nat × Int) → List (Nat × Int) → List (Nat × Int)
  | [], l => l
  | (j, c) :: r, l => addt j c (mrg r l)
theorem fv_mrg (vl : List (Nat × Value)) (l : List (Nat × Int)) : ∀ k, fv vl (mrg k l) = fv vl k + fv vl l
  | [] => by show fv vl l = 0 + fv vl l; omega
  | (j, c) :: r => by
    rw [mrg, fv_addt, fv_mrg vl l r]
    show _ = (c * lval vl j + fv vl r) + fv vl l
    omega
def negl (l : List (Nat × Int)) : List (Nat × Int) := l.map fun q => (q.1, -q.2)
theorem fv_neg (vl : List (Nat × Value)) : ∀ l, fv vl (negl l) = -fv vl l
  | [] => rfl
  | (j, c) :: r => by
    show -c * lval vl j + fv vl (negl r) = -(c * lval vl j + fv vl r)
    rw [fv_neg vl r, Int.neg_mul]; omega
def fsup (al : List (Nat × AV)) : List (Nat × Int) → Option Int
  | [] => some 0
  | (j, c) :: r => bif ile c 0 && ile 0 c then fsup al r else match lka al j with
    | none => none
    | some a => bif Nat.blt j 1000 && Nat.beq a.1 0 then match fsup al r with
      | some b => some ((bif ile 0 c then c * a.2.2 else c * a.2.1) + b)
      | none => none
      else none
theorem LR_lval {g : GG} {Γ : Nat → Nat} {al : List (Nat × AV)} {vl fl : List (Nat × Value)} {j : Nat} {a : AV} (h : LR g Γ al (NV vl fl)) (ha : lka al j = some a) (hk : (Nat.blt j 1000 && Nat.beq a.1 0) = true) : ∃ x : Int32, lka vl j = some (.int x) ∧ lval vl j = x.toInt ∧ a.2.1 ≤ x.toInt ∧ x.toInt ≤ a.2.2 := by
  obtain ⟨hk1, hk⟩ := Bool.and_eq_true_iff.mp hk
  obtain ⟨v, hv, hav⟩ := h.look ha
  rw [NV_lt (blt_lt hk1)] at hv
  obtain ⟨x, rfl, h1, h2⟩ := avi_int hk hav
  exact ⟨x, hv, by unfold lval; rw [hv], h1, h2⟩
theorem coef_le {c x lo hi : Int} (h1 : lo ≤ x) (h2 : x ≤ hi) : c * x ≤ (bif ile 0 c then c * hi else c * lo) := by
  cases h : ile 0 c with
  | true => exact Int.mul_le_mul_of_nonneg_left h2 (ile_ok h)
  | false =>
    have := ile_no h
    exact Int.mul_le_mul_of_nonpos_left (by omega) h1
theorem coef_ge {c x lo hi : Int} (h1 : lo ≤ x) (h2 : x ≤ hi) : (bif ile 0 c then c * lo else c * hi) ≤ c * x := by
  cases h : ile 0 c with
  | true => exact Int.mul_le_mul_of_nonneg_left h1 (ile_ok h)
  | false =>
    have := ile_no h
    exact Int.mul_le_mul_of_nonpos_left (by omega) h2
theorem fsup_ok {g : GG} {Γ : Nat → Nat} {al : List (Nat × AV)} {vl fl : List (Nat × Value)} (h : LR g Γ al (NV vl fl)) : ∀ {l : List (Nat × Int)} {b : Int}, fsup al l = some b → fv vl l ≤ b
  | [], b, e => by cases e; exact Int.le_refl _
  | (j, c) :: r, b, e => by
    rw [fsup] at e
    cases hz : (ile c 0 && ile 0 c) with
    | true =>
      rw [hz] at e
      obtain ⟨z1, z2⟩ := Bool.and_eq_true_iff.mp hz
      have e0 : c = 0 := Int.le_antisymm (ile_ok z1) (ile_ok z2)
      subst e0
      show 0 * lval vl j + fv vl r ≤ b
      have := fsup_ok h (l := r) e
      omega
    | false =>
      rw [hz] at e
      dsimp only [cond] at e
      split at e
      · cases e
      · rename_i a ha
        cases hk : (Nat.blt j 1000 && Nat.beq a.1 0) with
        | false => rw [hk] at e; cases e
        | true =>
          rw [hk] at e
          dsimp only at e
          split at e
          · rename_i b' hb
            cases e
            obtain ⟨x, -, e2, e3, e4⟩ := LR_lval h ha hk
            have h1 := fsup_ok h (l := r) hb
            have h2 := coef_le (c := c) e3 e4
            show c * lval vl j + fv vl r ≤ _
            rw [e2]
            exact Int.add_le_add h2 h1
          · cases e
def mlt (al : List (Nat × AV)) (F' F : MF) : Bool := match fsup al (mrg F'.2 (negl F.2)) with
  | none => false
  | some b => match fsup al (negl F'.2) with
    | none => false
    | some d => ile (F'.1 - F.1 + b) (-1) && ile d F'.1
theorem mlt_ok {g : GG} {Γ : Nat → Nat} {al : List (Nat × AV)} {vl fl : List (Nat × Value)} {F' F : MF} (h : LR g Γ al (NV vl fl)) (e : mlt al F' F = true) : mv vl F' < mv vl F ∧ 0 ≤ mv vl F' := by
  unfold mlt at e
  split at e
  · cases e
  · rename_i b hb
    split at e
    · cases e
    · rename_i d hd
      obtain ⟨e1, e2⟩ := Bool.and_eq_true_iff.mp e
      have e1 := ile_ok e1
      have e2 := ile_ok e2
      have h1 := fsup_ok h hb
      have h2 := fsup_ok h hd
      rw [fv_mrg, fv_neg] at h1
      rw [fv_neg] at h2
      unfold mv
      omega
/-- a state goes into a node -/
def cov (nd : Nat → NODE) (N id pc : Nat) (al : List (Nat × AV)) (st : List SE) (F : MF) : Bool :=
  Nat.blt id N && match nd id with
    | (pc', al', st', F', _) => Nat.beq pc pc' && (leal al al' && (ach st st' && mlt al F' F))
/-- narrower bounds -/
def ameet (a b : AV) : AV := bif Nat.beq a.1 0 && Nat.beq b.1 0 then (0, imax a.2.1 b.2.1, imin a.2.2 b.2.2) else b
theorem ameet_ok {g : GG} {Γ : Nat → Nat} {a b : AV} {v : Value} (h1 : avi g Γ a v) (h2 : avi g Γ b v) : avi g Γ (ameet a b) v := by
  unfold ameet
  cases h : (Nat.beq a.1 0 && Nat.beq b.1 0) with
  | false => exact h2
  | true =>
    obtain ⟨k1, k2⟩ := Bool.and_eq_true_iff.mp h
    obtain ⟨x, rfl, -⟩ := avi_int k1 h1
    exact ⟨rfl, imax_u h1.2.1 h2.2.1, imin_l h1.2.2 h2.2.2⟩
def ne0 (a b : AV) : Option (AV × AV) := bif ile a.2.1 a.2.2 && ile b.2.1 b.2.2 then some (a, b) else none
theorem ne0_ok {g : GG} {Γ : Nat → Nat} {a b : AV} {x y : Int32} (hx : avi g Γ a (.int x)) (hy : avi g Γ b (.int y)) : ∃ a' b', ne0 a b = some (a', b') ∧ avi g Γ a' (.int x) ∧ avi g Γ b' (.int y) := by
  refine ⟨a, b, ?_, hx, hy⟩
  unfold ne0
  have h1 : ile a.2.1 a.2.2 = true := by
    cases h : ile a.2.1 a.2.2 with
    | true => rfl
    | false => exact absurd (Int.le_trans hx.2.1 hx.2.2) (Int.not_le.mpr (ile_no h))
  have h2 : ile b.2.1 b.2.2 = true := by
    cases h : ile b.2.1 b.2.2 with
    | true => rfl
    | false => exact absurd (Int.le_trans hy.2.1 hy.2.2) (Int.not_le.mpr (ile_no h))
  rw [h1, h2]; rfl
def cut1 (a b : AV) : AV := bif ile b.2.2 b.2.1 then (0, (bif ile a.2.1 b.2.1 && ile b.2.1 a.2.1 then a.2.1 + 1 else a.2.1), (bif ile a.2.2 b.2.1 && ile b.2.1 a.2.2 then a.2.2 - 1 else a.2.2)) else a
theorem cut1_ok {g : GG} {Γ : Nat → Nat} {a b : AV} {x y : Int32} (hx : avi g Γ a (.int x)) (hy : avi g Γ b (.int y)) (h : ¬ x.toInt = y.toInt) : avi g Γ (cut1 a b) (.int x) := by
  obtain ⟨h0, h1, h2⟩ := hx
  obtain ⟨-, h3, h4⟩ := hy
  unfold cut1
  cases hb : ile b.2.2 b.2.1 with
  | false => exact ⟨h0, h1, h2⟩
  | true =>
    have hb := ile_ok hb
    refine ⟨rfl, ?_, ?_⟩
    · show (bif ile a.2.1 b.2.1 && ile b.2.1 a.2.1 then a.2.1 + 1 else a.2.1) ≤ x.toInt
      cases hc : (ile a.2.1 b.2.1 && ile b.2.1 a.2.1) with
      | false => exact h1
      | true =>
        obtain ⟨c1, c2⟩ := Bool.and_eq_true_iff.mp hc
        have c1 := ile_ok c1
        have c2 := ile_ok c2
        show a.2.1 + 1 ≤ x.toInt
        omega
    · show x.toInt ≤ (bif ile a.2.2 b.2.1 && ile b.2.1 a.2.2 then a.2.2 - 1 else a.2.2)
      cases hc : (ile a.2.2 b.2.1 && ile b.2.1 a.2.2) with
      | false => exact h2
      | true =>
        obtain ⟨c1, c2⟩ := Bool.and_eq_true_iff.mp hc
        have c1 := ile_ok c1
        have c2 := ile_ok c2
        show x.toInt ≤ a.2.2 - 1
        omega
def rfn (rel : Nat) (a b : AV) : Option (AV × AV) := match rel with
  | 0 => ne0 (0, imax a.2.1 b.2.1, imin a.2.2 b.2.2) (0, imax a.2.1 b.2.1, imin a.2.2 b.2.2)
  | 1 => ne0 (cut1 a b) (cut1 b a)
  | 2 => ne0 (0, a.2.1, imin a.2.2 (b.2.2 - 1)) (0, imax b.2.1 (a.2.1 + 1), b.2.2)
  | 3 => ne0 (0, imax a.2.1 b.2.1, a.2.2) (0, b.2.1, imin b.2.2 a.2.2)
  | 4 => ne0 (0, imax a.2.1 (b.2.1 + 1), a.2.2) (0, b.2.1, imin b.2.2 (a.2.2 - 1))
  | _ => ne0 (0, a.2.1, imin a.2.2 b.2.2) (0, imax b.2.1 a.2.1, b.2.2)
def RLN (rel : Nat) (x y : Int) : Prop := match rel with
  | 0 => x = y
  | 1 => ¬ x = y
  | 2 => x < y
  | 3 => y ≤ x
  | 4 => y < x
  | _ => x ≤ y
theorem rfn_ok {g : GG} {Γ : Nat → Nat} {rel : Nat} {a b : AV} {x y : Int32} (hx : avi g Γ a (.int x)) (hy : avi g Γ b (.int y)) (h : RLN rel x.toInt y.toInt) : ∃ a' b', rfn rel a b = some (a', b') ∧ avi g Γ a' (.int x) ∧ avi g Γ b' (.int y) := by
  have hx' := hx
  have hy' := hy
  obtain ⟨h0, h1, h2⟩ := hx
  obtain ⟨h3, h4, h5⟩ := hy
  unfold rfn
  unfold RLN at h
  split at h
  · exact ne0_ok ⟨rfl, imax_u h1 (by omega), imin_l h2 (by omega)⟩ ⟨rfl, imax_u (by omega) h4, imin_l (by omega) h5⟩
  · exact ne0_ok (cut1_ok hx' hy' h) (cut1_ok hy' hx' (fun q => h q.symm))
  · exact ne0_ok ⟨rfl, h1, imin_l h2 (by omega)⟩ ⟨rfl, imax_u h4 (by omega), h5⟩
  · exact ne0_ok ⟨rfl, imax_u h1 (by omega), h2⟩ ⟨rfl, h4, imin_l h5 (by omega)⟩
  · exact ne0_ok ⟨rfl, imax_u h1 (by omega), h2⟩ ⟨rfl, h4, imin_l h5 (by omega)⟩
  · exact ne0_ok ⟨rfl, h1, imin_l h2 (by omega)⟩ ⟨rfl, imax_u h4 (by omega), h5⟩
def apl1 (a : AV) (al : List (Nat × AV)) (q : Int × Int × Nat × AV) : List (Nat × AV) :=
  bif ile q.1 a.2.1 && ile a.2.2 q.2.1 then match lka al q.2.2.1 with
    | some cur => seta al q.2.2.1 (ameet cur q.2.2.2)
    | none => al
  else al
def apl (al : List (Nat × AV)) (e : SE) (a : AV) : List (Nat × AV) := e.2.2.foldl (apl1 a) (match e.2.1 with
  | 0 => al
  | i + 1 => seta al i a)
theorem apl_ok {g : GG} {Γ : Nat → Nat} {al : List (Nat × AV)} {E : ENV} {e : SE} {a : AV} {x : Int32} (h : LR g Γ al E) (hs : sei g Γ E e (.int x)) (ha : avi g Γ a (.int x)) : LR g Γ (apl al e a) E := by
  unfold apl
  have h0 : LR g Γ (match e.2.1 with | 0 => al | i + 1 => seta al i a) E := by
    split
    · exact h
    · rename_i i hi
      rcases hs.2.1 with h1 | h1
      · rw [hi] at h1; cases h1
      · rw [hi] at h1
        exact h.set ha h1
  have h2 := hs.2.2
  generalize (match e.2.1 with | 0 => al | i + 1 => seta al i a) = bl at h0 ⊢
  clear h
  generalize e.2.2 = qs at h2 ⊢
  induction qs generalizing bl with
  | nil => exact h0
  | cons q r ih =>
    rw [List.foldl_cons]
    refine ih _ ?_ (fun q' h' => h2 q' (List.mem_cons_of_mem _ h'))
    unfold apl1
    cases hc : (ile q.1 a.2.1 && ile a.2.2 q.2.1) with
    | false => exact h0
    | true =>
      obtain ⟨c1, c2⟩ := Bool.and_eq_true_iff.mp hc
      have c1 := ile_ok c1
      have c2 := ile_ok c2
      obtain ⟨w, hw, hw2⟩ := h2 q List.mem_cons_self x rfl (Int.le_trans c1 ha.2.1) (Int.le_trans ha.2.2 c2)
      dsimp only [cond]
      split
      · rename_i cur hcur
        obtain ⟨w2, hw3, hw4⟩ := h0.look hcur
        cases hw.symm.trans hw3
        exact h0.set (ameet_ok hw4 hw2) hw
      · exact h0
def bra (rel : Nat) (al : List (Nat × AV)) (e1 e2 : SE) : Option (List (Nat × AV)) := match rfn rel e1.1 e2.1 with
  | none => none
  | some (a, b) => some (apl (apl al e1 a) e2 b)
theorem bra_ok {g : GG} {Γ : Nat → Nat} {al : List (Nat × AV)} {E : ENV} {e1 e2 : SE} {rel : Nat} {x y : Int32} (h : LR g Γ al E) (h1 : sei g Γ E e1 (.int x)) (h2 : sei g Γ E e2 (.int y)) (hr : RLN rel x.toInt y.toInt) : ∃ bl, bra rel al e1 e2 = some bl ∧ LR g Γ bl E := by
  obtain ⟨a, b, e, ha, hb⟩ := rfn_ok h1.1 h2.1 hr
  unfold bra
  rw [e]
  exact ⟨_, rfl, apl_ok (apl_ok h h1 ha) h2 hb⟩
def nrel (rel : Nat) : Nat := match rel with
  | 0 => 1
  | 1 => 0
  | 2 => 3
  | 3 => 2
  | 4 => 5
  | _ => 4
theorem nrel_ok : ∀ {rel : Nat} {x y : Int}, ¬ RLN rel x y → RLN (nrel rel) x y
  | 0, _, _, h => h
  | 1, _, _, h => Classical.byContradiction h
  | 2, _, _, h => Int.not_lt.mp h
  | 3, _, _, h => Int.not_le.mp h
  | 4, _, _, h => Int.not_lt.mp h
  | _ + 5, _, _, h => Int.not_le.mp h

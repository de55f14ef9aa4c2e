/-! the reference's valleys: its rows by their fields -/
def VKS : List Nat := [6, 7, 8, 9, 10, 11, 12, 13, 14, 15, 16, 17, 52, 53, 61]
def VKT : Nat → Nat := fun k => if k = 6 then 62 else if k = 7 then 63 else if k = 8 then 64 else if k = 9 then 65 else if k = 10 then 120 else if k = 11 then 121 else if k = 12 then 66 else if k = 13 then 122 else if k = 14 then 67 else if k = 15 then 123 else if k = 16 then 68 else if k = 17 then 69 else if k = 52 then 88 else if k = 53 then 89 else if k = 61 then 96 else 0
def VKD : Nat → Nat := fun k => if k = 6 then 1 else if k = 7 then 1 else if k = 8 then 1 else if k = 9 then 1 else if k = 10 then 1 else if k = 11 then 1 else if k = 12 then 1 else if k = 13 then 1 else if k = 14 then 1 else if k = 15 then 1 else if k = 16 then 1 else if k = 17 then 3 else if k = 52 then 1 else if k = 53 then 1 else if k = 61 then 1 else 0
def VKN : Nat → Nat := fun k => if k = 6 then 11 else if k = 7 then 11 else if k = 8 then 11 else if k = 9 then 44 else if k = 10 then 44 else if k = 11 then 44 else if k = 12 then 132 else if k = 13 then 132 else if k = 14 then 132 else if k = 15 then 132 else if k = 16 then 132 else if k = 17 then 132 else if k = 52 then 420 else if k = 53 then 77 else if k = 61 then 308 else 0
/-- one valley in the reference's rows -/
def RP1 (F : Nat → Nat → Int32) (i : Nat) (w : VV) : Prop := F 6 i = nI w.p ∧ F 7 i = nI w.lc ∧ F 8 i = w.de ∧ (∀ j : Nat, j < 4 → F 9 (4 * i + j) = w.kn j ∧ F 10 (4 * i + j) = w.mu j ∧ F 11 (4 * i + j) = w.mn j) ∧ (∀ j : Nat, j < w.lc → F 12 (12 * i + j) = w.L (j * 6) ∧ F 13 (12 * i + j) = w.L (j * 6 + 1) ∧ F 14 (12 * i + j) = w.L (j * 6 + 2) ∧ F 15 (12 * i + j) = w.L (j * 6 + 3) ∧ F 16 (12 * i + j) = w.L (j * 6 + 5) ∧ F 17 (12 * i + j) = w.L (j * 6 + 4)) ∧ (∀ o : Nat, o < 7 → F 53 (7 * i + o) = w.cl o ∧ ∀ t : Nat, t < tN (w.cl o) → F 52 (6 * (7 * i + o) + t) = w.cd (o * 6 + t)) ∧ ∀ j o : Nat, j < 4 → o < 7 → F 61 (7 * (4 * i + j) + o) = w.ta (j * 7 + o)
def RPW (nv : Nat) (V : Nat → VV) (F : Nat → Nat → Int32) : Prop := ∀ i : Nat, i < nv → VOK (V i) ∧ RP1 F i (V i)
def RRVB (g : GG) (m0 : Nat) (B : Nat → Nat) (F : Nat → Nat → Int32) (H : Heap) : Prop := ∀ k ∈ VKS, FE g m0 12 k H (.ref (B k)) ∧ AT g (VKD k) (VKN k) (B k) (F k) H
def RRV (g : GG) (m0 nv : Nat) (V : Nat → VV) (H : Heap) : Prop := ∃ (B : Nat → Nat) (F : Nat → Nat → Int32), RRVB g m0 B F H ∧ RPW nv V F
section
variable {g : GG} {Γ : Nat → Nat} {H H1 : Heap} {m0 nv : Nat} {V V' : Nat → VV} {B : Nat → Nat} {F F' : Nat → Nat → Int32} {mods : List (Nat × Nat)}
theorem RRVB.tag (h : RRVB g m0 B F H) (hT : HT g TS0 Γ H) (tm : Γ m0 = 60) {k : Nat} (hk : k ∈ VKS) : Γ (B k) = VKT k ∧ VKT k ≠ 0 ∧ ∃ x, TS0.1 (VKT k) = .inr x := by
  have h1 := (h k hk).1
  simp only [VKS, List.mem_cons, List.not_mem_nil, or_false] at hk
  rcases hk with rfl | rfl | rfl | rfl | rfl | rfl | rfl | rfl | rfl | rfl | rfl | rfl | rfl | rfl | rfl
  · exact ⟨(ref_tag (k := 6) (u := 62) hT tm (by decide) rfl rfl h1).1, by decide, _, rfl⟩
  · exact ⟨(ref_tag (k := 7) (u := 63) hT tm (by decide) rfl rfl h1).1, by decide, _, rfl⟩
  · exact ⟨(ref_tag (k := 8) (u := 64) hT tm (by decide) rfl rfl h1).1, by decide, _, rfl⟩
  · exact ⟨(ref_tag (k := 9) (u := 65) hT tm (by decide) rfl rfl h1).1, by decide, _, rfl⟩
  · exact ⟨(ref_tag (k := 10) (u := 120) hT tm (by decide) rfl rfl h1).1, by decide, _, rfl⟩
  · exact ⟨(ref_tag (k := 11) (u := 121) hT tm (by decide) rfl rfl h1).1, by decide, _, rfl⟩
  · exact ⟨(ref_tag (k := 12) (u := 66) hT tm (by decide) rfl rfl h1).1, by decide, _, rfl⟩
  · exact ⟨(ref_tag (k := 13) (u := 122) hT tm (by decide) rfl rfl h1).1, by decide, _, rfl⟩
  · exact ⟨(ref_tag (k := 14) (u := 67) hT tm (by decide) rfl rfl h1).1, by decide, _, rfl⟩
  · exact ⟨(ref_tag (k := 15) (u := 123) hT tm (by decide) rfl rfl h1).1, by decide, _, rfl⟩
  · exact ⟨(ref_tag (k := 16) (u := 68) hT tm (by decide) rfl rfl h1).1, by decide, _, rfl⟩
  · exact ⟨(ref_tag (k := 17) (u := 69) hT tm (by decide) rfl rfl h1).1, by decide, _, rfl⟩
  · exact ⟨(ref_tag (k := 52) (u := 88) hT tm (by decide) rfl rfl h1).1, by decide, _, rfl⟩
  · exact ⟨(ref_tag (k := 53) (u := 89) hT tm (by decide) rfl rfl h1).1, by decide, _, rfl⟩
  · exact ⟨(ref_tag (k := 61) (u := 96) hT tm (by decide) rfl rfl h1).1, by decide, _, rfl⟩
/-- behind a call that may change these rows -/
theorem RRV.upd {ks : List Nat} (h : RRVB g m0 B F H) (hT : HT g TS0 Γ H) (tm : Γ m0 = 60) (hu : Un g TS0 Γ mods H H1) (hm1 : mdn (VKS.map fun k => (60, k)) mods = true) (hm2 : (VKS.all fun k => ks.elem k || !(md mods (VKT k) 0)) = true) (hF : ∀ k : Nat, ks.elem k = false → F' k = F k) (hnew : ∀ k ∈ ks, AT g (VKD k) (VKN k) (B k) (F' k) H1) (hp : RPW nv V' F') : RRV g m0 nv V' H1 := by
  refine ⟨B, F', fun k hk => ⟨?_, ?_⟩, hp⟩
  · exact hu.fld tm (by decide) rfl (mdn_at hm1 (List.mem_map.mpr ⟨k, hk, rfl⟩)) (h k hk).1
  · cases e : ks.elem k with
    | true => exact hnew k (List.elem_iff.mp e)
    | false =>
      rw [hF k e]
      obtain ⟨h1, h2, x, h3⟩ := h.tag hT tm hk
      have h4 := List.all_eq_true.mp hm2 k hk
      rw [e, Bool.false_or, Bool.not_eq_true'] at h4
      exact (h k hk).2.kept (hu.arr h1 h2 h3 h4)
theorem RRV.keep (h : RRV g m0 nv V H) (hT : HT g TS0 Γ H) (tm : Γ m0 = 60) (hu : Un g TS0 Γ mods H H1) (hm1 : mdn (VKS.map fun k => (60, k)) mods = true) (hm2 : (VKS.all fun k => !(md mods (VKT k) 0)) = true) : RRV g m0 nv V H1 := by
  obtain ⟨B, F, h1, h2⟩ := h
  exact RRV.upd (ks := []) h1 hT tm hu hm1 (List.all_eq_true.mpr fun k hk => by rw [List.all_eq_true.mp hm2 k hk]; exact Bool.or_true _) (fun _ _ => rfl) (fun k hk => absurd hk List.not_mem_nil) h2
/-- the reference's cells are as they were -/
def OLDM (Γ : Nat → Nat) (H H1 : Heap) : Prop := ∀ q : Nat, Γ q = 60 ∨ (∃ k ∈ VKS, Γ q = VKT k) → H1[q]? = H[q]?
theorem oldm_of {ws : va_W} {tl : List Nat} (hT : HT g TS0 Γ H) (tg : ws.map (fun w => Γ w.1) = tl) (h60 : (tl.any fun u => Nat.beq u 60) = false) (hall : (VKS.all fun k => !(tl.any fun u => Nat.beq u (VKT k)) && !(Nat.beq (VKT k) 0)) = true) (hk : ∀ q : Nat, q < H.size → ¬ va_A ws H.size q → H1[q]? = H[q]?) : OLDM Γ H H1 := fun q hq => by
  rcases hq with h | ⟨k, hk9, h⟩
  · have lt : q < H.size := hT.lt (by rw [h]; decide)
    exact hk q lt (nin_tag tg h h60 lt)
  · have h1 := List.all_eq_true.mp hall k hk9
    obtain ⟨h2, h3⟩ := Bool.and_eq_true_iff.mp h1
    rw [Bool.not_eq_true'] at h2 h3
    have lt : q < H.size := hT.lt (by rw [h]; exact fun e => by rw [e] at h3; cases h3)
    exact hk q lt (nin_tag tg h h2 lt)
theorem RRV.same (h : RRV g m0 nv V H) (hT : HT g TS0 Γ H) (tm : Γ m0 = 60) (ho : OLDM Γ H H1) : RRV g m0 nv V H1 := by
  obtain ⟨B, F, h1, h2⟩ := h
  exact ⟨B, F, fun k hk => ⟨FE_kept (h1 k hk).1 (ho m0 (Or.inl tm)), (h1 k hk).2.kept (ho _ (Or.inr ⟨k, hk, (h1.tag hT tm hk).1⟩))⟩, h2⟩
end
/-! the reference's calls agree with the class's pictures -/
theorem per_eq {n : Nat} {x : Int32} (hn : n ≤ 1000) : F_X12_isIn x 0 (nI n - 1) = F_X10_hasPerson (nI n) x := by
  unfold F_X12_isIn F_X10_hasPerson
  have e : nI n - 1 < x ↔ nI n ≤ x := by
    rw [Int32.lt_iff_toInt_lt, Int32.le_iff_toInt_le, nI_toInt (by omega)]
    have : (nI n - 1).toInt = (n : Int) - 1 := by
      rcases Nat.eq_zero_or_pos n with h | h
      · subst h; decide
      · rw [show nI n - 1 = nI (n - 1) from pk_sub (a := n) (b := 1) (by omega), nI_toInt (by omega)]
        omega
    rw [this]
    omega
  by_cases h0 : x < 0
  · rw [if_pos h0, if_pos h0]
  · rw [if_neg h0, if_neg h0]
    by_cases h1 : nI n ≤ x
    · rw [if_pos (e.mpr h1), if_pos h1]
    · rw [if_neg (fun h => h1 (e.mp h)), if_neg h1]
theorem RPW.set {nv i : Nat} {V : Nat → VV} {F F' : Nat → Nat → Int32} {w : VV} (h : RPW nv V F) (hi : i < nv) (hw : VOK w) (h1 : RP1 F' i w) (ho : ∀ j : Nat, j < nv → j ≠ i → RP1 F' j (V j)) : RPW nv (vset V i w) F' := fun j hj => by
  by_cases e : j = i
  · subst e; rw [vset_eq]; exact ⟨hw, h1⟩
  · rw [vset_ne e]; exact ⟨(h j hj).1, ho j hj e⟩
/-- one row is another one -/
def fset (F : Nat → Nat → Int32) (k : Nat) (r : Nat → Int32) : Nat → Nat → Int32 := fun j => if j = k then r else F j
theorem down_agree {nv : Nat} {V : Nat → VV} {F : Nat → Nat → Int32} {x y z : Int32} (hnv : nv ≤ 10) (h : RPW nv V F) : (F_X12_down nv (F 7) (F 16) x y z).1 = vAns nv V x 0 (fun w => (F_X11_down1 w.lc w.L (kx w) y z).1) ∧ RPW nv (vNew nv V x (fun w : VV => (w.sL ((F_X11_down1 w.lc w.L (kx w) y z).2.1)))) (fset F 16 (F_X12_down nv (F 7) (F 16) x y z).2) := by
  have same : RPW nv V (fset F 16 (F 16)) := by
    have e : fset F 16 (F 16) = F := funext fun k => by
      unfold fset; split
      · rename_i e; rw [e]
      · rfl
    rw [e]; exact h
  rcases vin_cases (n := nv) (by omega) x with hb | ⟨i, hi, rfl⟩
  · rw [vAns_no hb, vNew_no hb]
    unfold F_X12_down F_X12_isLine
    rw [rv_no hb, if_pos rfl, if_pos rfl]
    exact ⟨rfl, same⟩
  · rw [vAns_ok hnv hi, vNew_ok hnv hi]
    obtain ⟨ok, r6, r7, r8, r9, r12, r53, r61⟩ := h i hi
    have ok0 := ok
    obtain ⟨ok1, ok2, ok3, ok4⟩ := ok
    have hv : ¬ F_X12_isValley nv (nI i) = 0 := by rw [rv_ok (by omega) hi]; decide
    have hl : F_X12_isLine nv (F 7) (nI i) y = if F_X10_hasLine (nI (V i).lc) y = 0 then 0 else 1 := by
      unfold F_X12_isLine
      rw [if_neg hv, tN_nI (by omega), r7, per_eq (by omega)]
      rfl
    unfold F_X12_down F_X11_down1 F_X10_setDown
    rw [hl, tN_nI (by omega)]
    have keep : RPW nv (vset V i (V i)) (fset F 16 (F 16)) := by
      have e : vset V i (V i) = V := funext fun k => by
        unfold vset; split
        · rename_i e; rw [e]
        · rfl
      rw [e]; exact same
    by_cases h0 : F_X10_hasLine (nI (V i).lc) y = 0
    · rw [if_pos h0, if_pos rfl, if_pos h0]
      exact ⟨rfl, keep⟩
    · rw [if_neg h0, if_neg (by decide), if_neg h0]
      have hy := hl_at (n := (V i).lc) (by omega) h0
      have hy2 := hy.2
      have chg : RPW nv (vset V i ((V i).sL (upd (V i).L (tN y * 6 + 5) z))) (fset F 16 (upd (F 16) (12 * i + tN y) z)) := by
        refine h.set hi ⟨ok1, ok2, ends_dn ok3, ok4⟩ ⟨r6, r7, r8, r9, fun j hj => ?_, r53, r61⟩ fun j hj hji => ?_
        · have hj : j < (V i).lc := hj
          obtain ⟨a1, a2, a3, a4, a5, a6⟩ := r12 j hj
          refine ⟨a1.trans (upd_ne (by omega)).symm, a2.trans (upd_ne (by omega)).symm, a3.trans (upd_ne (by omega)).symm, a4.trans (upd_ne (by omega)).symm, ?_, a6.trans (upd_ne (by omega)).symm⟩
          show upd (F 16) (12 * i + tN y) z (12 * i + j) = upd (V i).L (tN y * 6 + 5) z (j * 6 + 5)
          by_cases e : j = tN y
          · subst e; rw [upd_eq, upd_eq]
          · rw [upd_ne (by omega), upd_ne (by omega)]; exact a5
        · obtain ⟨okj, b6, b7, b8, b9, b12, b53, b61⟩ := h j hj
          refine ⟨b6, b7, b8, b9, fun k hk => ?_, b53, b61⟩
          obtain ⟨a1, a2, a3, a4, a5, a6⟩ := b12 k hk
          refine ⟨a1, a2, a3, a4, ?_, a6⟩
          show upd (F 16) (12 * i + tN y) z (12 * j + k) = _
          rw [upd_ne (by have := okj.2.1; omega)]
          exact a5
      by_cases h1 : z = -1
      · rw [if_pos h1, if_pos h1]; exact ⟨rfl, chg⟩
      · rw [if_neg h1, if_neg h1]
        by_cases h2 : F_X11_isHour z = 0
        · rw [if_pos h2, if_pos (show F_X12_isHour z = 0 from h2)]; exact ⟨rfl, keep⟩
        · rw [if_neg h2, if_neg (show ¬ F_X12_isHour z = 0 from h2)]; exact ⟨rfl, chg⟩

/-! where the lists of states stand: they change places, no more -/
def PQ (p q a b : Nat) : Prop := (a = p ∧ b = q) ∨ (a = q ∧ b = p)
theorem PQ.rfl' {p q : Nat} : PQ p q p q := Or.inl ⟨rfl, rfl⟩
theorem PQ.tr {p q a b c d : Nat} (h : PQ p q a b) (h2 : PQ a b c d) : PQ p q c d := by
  unfold PQ at *
  omega
theorem PQ.ne {p q a b : Nat} (hn : ¬ p = q) (h : PQ p q a b) : ¬ a = b := by
  unfold PQ at h
  omega
theorem hf_perm {zp p q : Nat} {zd zt zm rc rp x : Int32} {cA pw now nx S O M C : Nat → Int32} (hzp : zp ≤ 7) (h : RI S M rc) : PQ p q (F_X7_hoursFromFirst p q zp zd zt zm cA pw now nx S O M C rc rp x).2.1 (F_X7_hoursFromFirst p q zp zd zt zm cA pw now nx S O M C rc rp x).2.2.1 := by
  have e := lhf_eq (zp := zp) (p := p) (q := q) (zd := zd) (zt := zt) (zm := zm) (rc := rc) (rp := rp) (x := x) (cA := cA) (pw := pw) (now := now) (nx := nx) (S := S) (O := O) (M := M) (C := C)
  show PQ p q (F_X7_hoursFromFirst p q zp zd zt zm cA pw now nx S O M C rc rp x).2.1 (F_X7_hoursFromFirst p q zp zd zt zm cA pw now nx S O M C rc rp x).2.2.1
  rw [show (F_X7_hoursFromFirst p q zp zd zt zm cA pw now nx S O M C rc rp x).2.1 = ((F_X7_hoursFromFirst p q zp zd zt zm cA pw now nx S O M C rc rp x).2).1 from rfl, show (F_X7_hoursFromFirst p q zp zd zt zm cA pw now nx S O M C rc rp x).2.2.1 = ((F_X7_hoursFromFirst p q zp zd zt zm cA pw now nx S O M C rc rp x).2).2.1 from rfl, e]
  exact (lh_ok hzp (by omega) h).2.2.1
section
variable {pw kn mu mn K L : Nat → Int32} {pe lc ni : Nat} {de : Int32}
theorem fa2 (hpe : pe ≤ 7) {j1 : Nat} {i0 i9 i10 i11 i12 i13 : Int32} {i1 i2 i3 i4 i5 i6 i7 i8 : Nat → Int32} {i14 i15 : Nat} (h : RI i5 i7 i10) : ∀ k : Nat, RI (L2_X7_findAdded pw pe lc de kn mu mn K L ni j1 i0 i1 i2 i3 i4 i5 i6 i7 i8 i9 i10 i11 i12 i13 i14 i15 k).2.2.2.2.2.1 (L2_X7_findAdded pw pe lc de kn mu mn K L ni j1 i0 i1 i2 i3 i4 i5 i6 i7 i8 i9 i10 i11 i12 i13 i14 i15 k).2.2.2.2.2.2.2.1 (L2_X7_findAdded pw pe lc de kn mu mn K L ni j1 i0 i1 i2 i3 i4 i5 i6 i7 i8 i9 i10 i11 i12 i13 i14 i15 k).2.2.2.2.2.2.2.2.2.2.1 ∧ PQ i14 i15 (L2_X7_findAdded pw pe lc de kn mu mn K L ni j1 i0 i1 i2 i3 i4 i5 i6 i7 i8 i9 i10 i11 i12 i13 i14 i15 k).2.2.2.2.2.2.2.2.2.2.2.2.2.2.1 (L2_X7_findAdded pw pe lc de kn mu mn K L ni j1 i0 i1 i2 i3 i4 i5 i6 i7 i8 i9 i10 i11 i12 i13 i14 i15 k).2.2.2.2.2.2.2.2.2.2.2.2.2.2.2
  | 0 => ⟨h, PQ.rfl'⟩
  | k + 1 => by
    have ih := fa2 hpe (j1 := j1) (i0 := i0) (i1 := i1) (i2 := i2) (i3 := i3) (i4 := i4) (i5 := i5) (i6 := i6) (i7 := i7) (i8 := i8) (i9 := i9) (i10 := i10) (i11 := i11) (i12 := i12) (i13 := i13) (i14 := i14) (i15 := i15) h k
    have e : L2_X7_findAdded pw pe lc de kn mu mn K L ni j1 i0 i1 i2 i3 i4 i5 i6 i7 i8 i9 i10 i11 i12 i13 i14 i15 (k + 1) = L2_X7_findAddeds pw pe lc de kn mu mn K L ni j1 k (L2_X7_findAdded pw pe lc de kn mu mn K L ni j1 i0 i1 i2 i3 i4 i5 i6 i7 i8 i9 i10 i11 i12 i13 i14 i15 k).1 (L2_X7_findAdded pw pe lc de kn mu mn K L ni j1 i0 i1 i2 i3 i4 i5 i6 i7 i8 i9 i10 i11 i12 i13 i14 i15 k).2.1 (L2_X7_findAdded pw pe lc de kn mu mn K L ni j1 i0 i1 i2 i3 i4 i5 i6 i7 i8 i9 i10 i11 i12 i13 i14 i15 k).2.2.1 (L2_X7_findAdded pw pe lc de kn mu mn K L ni j1 i0 i1 i2 i3 i4 i5 i6 i7 i8 i9 i10 i11 i12 i13 i14 i15 k).2.2.2.1 (L2_X7_findAdded pw pe lc de kn mu mn K L ni j1 i0 i1 i2 i3 i4 i5 i6 i7 i8 i9 i10 i11 i12 i13 i14 i15 k).2.2.2.2.1 (L2_X7_findAdded pw pe lc de kn mu mn K L ni j1 i0 i1 i2 i3 i4 i5 i6 i7 i8 i9 i10 i11 i12 i13 i14 i15 k).2.2.2.2.2.1 (L2_X7_findAdded pw pe lc de kn mu mn K L ni j1 i0 i1 i2 i3 i4 i5 i6 i7 i8 i9 i10 i11 i12 i13 i14 i15 k).2.2.2.2.2.2.1 (L2_X7_findAdded pw pe lc de kn mu mn K L ni j1 i0 i1 i2 i3 i4 i5 i6 i7 i8 i9 i10 i11 i12 i13 i14 i15 k).2.2.2.2.2.2.2.1 (L2_X7_findAdded pw pe lc de kn mu mn K L ni j1 i0 i1 i2 i3 i4 i5 i6 i7 i8 i9 i10 i11 i12 i13 i14 i15 k).2.2.2.2.2.2.2.2.1 (L2_X7_findAdded pw pe lc de kn mu mn K L ni j1 i0 i1 i2 i3 i4 i5 i6 i7 i8 i9 i10 i11 i12 i13 i14 i15 k).2.2.2.2.2.2.2.2.2.1 (L2_X7_findAdded pw pe lc de kn mu mn K L ni j1 i0 i1 i2 i3 i4 i5 i6 i7 i8 i9 i10 i11 i12 i13 i14 i15 k).2.2.2.2.2.2.2.2.2.2.1 (L2_X7_findAdded pw pe lc de kn mu mn K L ni j1 i0 i1 i2 i3 i4 i5 i6 i7 i8 i9 i10 i11 i12 i13 i14 i15 k).2.2.2.2.2.2.2.2.2.2.2.1 (L2_X7_findAdded pw pe lc de kn mu mn K L ni j1 i0 i1 i2 i3 i4 i5 i6 i7 i8 i9 i10 i11 i12 i13 i14 i15 k).2.2.2.2.2.2.2.2.2.2.2.2.1 (L2_X7_findAdded pw pe lc de kn mu mn K L ni j1 i0 i1 i2 i3 i4 i5 i6 i7 i8 i9 i10 i11 i12 i13 i14 i15 k).2.2.2.2.2.2.2.2.2.2.2.2.2.1 (L2_X7_findAdded pw pe lc de kn mu mn K L ni j1 i0 i1 i2 i3 i4 i5 i6 i7 i8 i9 i10 i11 i12 i13 i14 i15 k).2.2.2.2.2.2.2.2.2.2.2.2.2.2.1 (L2_X7_findAdded pw pe lc de kn mu mn K L ni j1 i0 i1 i2 i3 i4 i5 i6 i7 i8 i9 i10 i11 i12 i13 i14 i15 k).2.2.2.2.2.2.2.2.2.2.2.2.2.2.2 := rfl
    rw [e]
    generalize L2_X7_findAdded pw pe lc de kn mu mn K L ni j1 i0 i1 i2 i3 i4 i5 i6 i7 i8 i9 i10 i11 i12 i13 i14 i15 k = s at ih ⊢
    unfold L2_X7_findAddeds
    split
    · split
      · exact ⟨hf_RI hpe ih.1, ih.2.tr (hf_perm hpe ih.1)⟩
      · exact ⟨hf_RI hpe ih.1, ih.2.tr (hf_perm hpe ih.1)⟩
    · exact ih
theorem fa1 (hpe : pe ≤ 7) {i0 i9 i10 i11 i12 i13 : Int32} {i1 i2 i3 i4 i5 i6 i7 i8 : Nat → Int32} {i14 i15 : Nat} (h : RI i5 i7 i10) : ∀ k : Nat, RI (L1_X7_findAdded pw pe lc de kn mu mn K L ni i0 i1 i2 i3 i4 i5 i6 i7 i8 i9 i10 i11 i12 i13 i14 i15 k).2.2.2.2.2.1 (L1_X7_findAdded pw pe lc de kn mu mn K L ni i0 i1 i2 i3 i4 i5 i6 i7 i8 i9 i10 i11 i12 i13 i14 i15 k).2.2.2.2.2.2.2.1 (L1_X7_findAdded pw pe lc de kn mu mn K L ni i0 i1 i2 i3 i4 i5 i6 i7 i8 i9 i10 i11 i12 i13 i14 i15 k).2.2.2.2.2.2.2.2.2.2.1 ∧ PQ i14 i15 (L1_X7_findAdded pw pe lc de kn mu mn K L ni i0 i1 i2 i3 i4 i5 i6 i7 i8 i9 i10 i11 i12 i13 i14 i15 k).2.2.2.2.2.2.2.2.2.2.2.2.2.2.1 (L1_X7_findAdded pw pe lc de kn mu mn K L ni i0 i1 i2 i3 i4 i5 i6 i7 i8 i9 i10 i11 i12 i13 i14 i15 k).2.2.2.2.2.2.2.2.2.2.2.2.2.2.2
  | 0 => ⟨h, PQ.rfl'⟩
  | k + 1 => by
    have ih := fa1 hpe (i0 := i0) (i1 := i1) (i2 := i2) (i3 := i3) (i4 := i4) (i5 := i5) (i6 := i6) (i7 := i7) (i8 := i8) (i9 := i9) (i10 := i10) (i11 := i11) (i12 := i12) (i13 := i13) (i14 := i14) (i15 := i15) h k
    have e : L1_X7_findAdded pw pe lc de kn mu mn K L ni i0 i1 i2 i3 i4 i5 i6 i7 i8 i9 i10 i11 i12 i13 i14 i15 (k + 1) = L1_X7_findAddeds pw pe lc de kn mu mn K L ni k (L1_X7_findAdded pw pe lc de kn mu mn K L ni i0 i1 i2 i3 i4 i5 i6 i7 i8 i9 i10 i11 i12 i13 i14 i15 k).1 (L1_X7_findAdded pw pe lc de kn mu mn K L ni i0 i1 i2 i3 i4 i5 i6 i7 i8 i9 i10 i11 i12 i13 i14 i15 k).2.1 (L1_X7_findAdded pw pe lc de kn mu mn K L ni i0 i1 i2 i3 i4 i5 i6 i7 i8 i9 i10 i11 i12 i13 i14 i15 k).2.2.1 (L1_X7_findAdded pw pe lc de kn mu mn K L ni i0 i1 i2 i3 i4 i5 i6 i7 i8 i9 i10 i11 i12 i13 i14 i15 k).2.2.2.1 (L1_X7_findAdded pw pe lc de kn mu mn K L ni i0 i1 i2 i3 i4 i5 i6 i7 i8 i9 i10 i11 i12 i13 i14 i15 k).2.2.2.2.1 (L1_X7_findAdded pw pe lc de kn mu mn K L ni i0 i1 i2 i3 i4 i5 i6 i7 i8 i9 i10 i11 i12 i13 i14 i15 k).2.2.2.2.2.1 (L1_X7_findAdded pw pe lc de kn mu mn K L ni i0 i1 i2 i3 i4 i5 i6 i7 i8 i9 i10 i11 i12 i13 i14 i15 k).2.2.2.2.2.2.1 (L1_X7_findAdded pw pe lc de kn mu mn K L ni i0 i1 i2 i3 i4 i5 i6 i7 i8 i9 i10 i11 i12 i13 i14 i15 k).2.2.2.2.2.2.2.1 (L1_X7_findAdded pw pe lc de kn mu mn K L ni i0 i1 i2 i3 i4 i5 i6 i7 i8 i9 i10 i11 i12 i13 i14 i15 k).2.2.2.2.2.2.2.2.1 (L1_X7_findAdded pw pe lc de kn mu mn K L ni i0 i1 i2 i3 i4 i5 i6 i7 i8 i9 i10 i11 i12 i13 i14 i15 k).2.2.2.2.2.2.2.2.2.1 (L1_X7_findAdded pw pe lc de kn mu mn K L ni i0 i1 i2 i3 i4 i5 i6 i7 i8 i9 i10 i11 i12 i13 i14 i15 k).2.2.2.2.2.2.2.2.2.2.1 (L1_X7_findAdded pw pe lc de kn mu mn K L ni i0 i1 i2 i3 i4 i5 i6 i7 i8 i9 i10 i11 i12 i13 i14 i15 k).2.2.2.2.2.2.2.2.2.2.2.1 (L1_X7_findAdded pw pe lc de kn mu mn K L ni i0 i1 i2 i3 i4 i5 i6 i7 i8 i9 i10 i11 i12 i13 i14 i15 k).2.2.2.2.2.2.2.2.2.2.2.2.1 (L1_X7_findAdded pw pe lc de kn mu mn K L ni i0 i1 i2 i3 i4 i5 i6 i7 i8 i9 i10 i11 i12 i13 i14 i15 k).2.2.2.2.2.2.2.2.2.2.2.2.2.1 (L1_X7_findAdded pw pe lc de kn mu mn K L ni i0 i1 i2 i3 i4 i5 i6 i7 i8 i9 i10 i11 i12 i13 i14 i15 k).2.2.2.2.2.2.2.2.2.2.2.2.2.2.1 (L1_X7_findAdded pw pe lc de kn mu mn K L ni i0 i1 i2 i3 i4 i5 i6 i7 i8 i9 i10 i11 i12 i13 i14 i15 k).2.2.2.2.2.2.2.2.2.2.2.2.2.2.2 := rfl
    rw [e]
    generalize L1_X7_findAdded pw pe lc de kn mu mn K L ni i0 i1 i2 i3 i4 i5 i6 i7 i8 i9 i10 i11 i12 i13 i14 i15 k = s at ih ⊢
    unfold L1_X7_findAddeds
    have g := fa2 (pw := pw) (kn := kn) (mu := mu) (mn := mn) (K := K) (L := L) (pe := pe) (lc := lc) (ni := ni) (de := de) (j1 := k) (i0 := s.1) (i1 := s.2.1) (i2 := s.2.2.1) (i3 := s.2.2.2.1) (i4 := s.2.2.2.2.1) (i6 := s.2.2.2.2.2.2.1) (i8 := s.2.2.2.2.2.2.2.2.1) (i9 := s.2.2.2.2.2.2.2.2.2.1) (i11 := s.2.2.2.2.2.2.2.2.2.2.2.1) (i12 := s.2.2.2.2.2.2.2.2.2.2.2.2.1) (i13 := s.2.2.2.2.2.2.2.2.2.2.2.2.2.1) (i14 := s.2.2.2.2.2.2.2.2.2.2.2.2.2.2.1) (i15 := s.2.2.2.2.2.2.2.2.2.2.2.2.2.2.2) hpe ih.1 (pe - (k + 1))
    exact ⟨g.1, ih.2.tr g.2⟩
theorem fa_ref (hpe : pe ≤ 7) {p q : Nat} {zi2 zi3 : Int32} {cA nw nx fS fO fM fC : Nat → Int32} {rc rp : Int32} (h : RI fS fM rc) : PQ p q (F_X7_findAdded p q zi2 zi3 cA pw nw nx fS fO fM fC rc rp pe lc de kn mu mn K L ni).2.2.1 (F_X7_findAdded p q zi2 zi3 cA pw nw nx fS fO fM fC rc rp pe lc de kn mu mn K L ni).2.2.2.1 := by
  have a := hf_perm (zp := pe) (p := p) (q := q) (zd := de) (zt := tpS pe mn ni) (zm := mu ni) (cA := L1_X7_prepare pe mn K ni cA 24) (pw := pw) (now := nw) (nx := nx) (O := fO) (C := fC) (rp := rp) (x := kn ni) hpe h
  have b := hf_RI (zp := pe) (p := p) (q := q) (zd := de) (zt := tpS pe mn ni) (zm := mu ni) (cA := L1_X7_prepare pe mn K ni cA 24) (pw := pw) (now := nw) (nx := nx) (O := fO) (C := fC) (rp := rp) (x := kn ni) hpe h
  unfold F_X7_findAdded
  split
  · exact a.tr (fa1 hpe b pe).2
  · exact a.tr (fa1 hpe b pe).2
end
theorem lr1 {zp ho p q : Nat} {zd zt zm : Int32} {cA pw sa gd nw nx fS fO fM fC : Nat → Int32} {rc rp x kk : Int32} (hk : tN kk < 2 ^ 30) (a : PQ p q (F_X7_leastHours p q zp zd zt zm cA pw nw nx fS fO fM fC rc rp x 0 ho).2.1 (F_X7_leastHours p q zp zd zt zm cA pw nw nx fS fO fM fC rc rp x 0 ho).2.2.1) : ∀ (m j : Nat) (x6 x5 : Int32) (S O M C : Nat → Int32) (y3 y5 : Int32), tN kk + 1 < m + j → j ≤ tN kk + 1 → PQ p q (L1_X7_lowestRow p q zp zd zt zm cA pw sa gd nw nx fS fO fM fC rc rp x ho kk m j x6 x5 S O M C y3 y5).2.1 (L1_X7_lowestRow p q zp zd zt zm cA pw sa gd nw nx fS fO fM fC rc rp x ho kk m j x6 x5 S O M C y3 y5).2.2.1
  | 0, j, _, _, _, _, _, _, _, _, h, h2 => absurd h (by omega)
  | m + 1, j, x6, x5, S, O, M, C, y3, y5, h, h2 => by
    rw [L1_X7_lowestRow]
    by_cases c1 : nI (tN kk) < nI j
    · rw [if_pos c1]; exact a
    · rw [if_neg c1]
      have hjk : j ≤ tN kk := by
        have z : ¬ tN kk < j := fun z => c1 ((nI_ltI (by omega) (by omega)).mpr z)
        omega
      split
      · exact a
      · exact lr1 hk a m (j + 1) _ _ _ _ _ _ _ _ (by omega) (by omega)
theorem lr_ref {zp ho p q : Nat} {zd zt zm : Int32} {cA pw sa gd nw nx fS fO fM fC : Nat → Int32} {rc rp x kk : Int32} (hzp : zp ≤ 7) (hho : ho ≤ 24) (hkk : 0 ≤ kk) (h : RI fS fM rc) : PQ p q (F_X7_lowestRow p q zp zd zt zm cA pw sa gd nw nx fS fO fM fC rc rp x ho kk).2.1 (F_X7_lowestRow p q zp zd zt zm cA pw sa gd nw nx fS fO fM fC rc rp x ho kk).2.2.1 := by
  have a : PQ p q (F_X7_leastHours p q zp zd zt zm cA pw nw nx fS fO fM fC rc rp x 0 ho).2.1 (F_X7_leastHours p q zp zd zt zm cA pw nw nx fS fO fM fC rc rp x 0 ho).2.2.1 := (lh_ok hzp hho h).2.2.1
  unfold F_X7_lowestRow
  by_cases c : kk < (F_X7_leastHours p q zp zd zt zm cA pw nw nx fS fO fM fC rc rp x 0 ho).1
  · rw [if_pos c]
    obtain ⟨-, b2, b3, b4, b5⟩ := (lh_ok (p := p) (q := q) (zd := zd) (zt := zt) (zm := zm) (cA := cA) (pw := pw) (now := nw) (nx := nx) (O := fO) (C := fC) (rp := rp) (x := x) (y := 0) hzp hho h).some hkk c
    exact lr1 (by omega) a _ 0 _ _ _ _ _ _ _ _ (by omega) (by omega)
  · rw [if_neg c]; exact a
theorem wh1 {cA pw mn K ta : Nat → Int32} {pe : Nat} {de y : Int32} (hpe : pe ≤ 7) (hta : ∀ j : Nat, j < 28 → ta j ≤ 24) (hy : tN y < 4) {i0 i8 i9 i10 i11 : Int32} {i1 i2 i3 i4 i5 i6 i7 : Nat → Int32} {i12 i13 : Nat} (h : RI i4 i6 i10) : ∀ k : Nat, RI (L1_X11_who1 cA pw pe de mn K ta y i0 i1 i2 i3 i4 i5 i6 i7 i8 i9 i10 i11 i12 i13 k).2.2.2.2.1 (L1_X11_who1 cA pw pe de mn K ta y i0 i1 i2 i3 i4 i5 i6 i7 i8 i9 i10 i11 i12 i13 k).2.2.2.2.2.2.1 (L1_X11_who1 cA pw pe de mn K ta y i0 i1 i2 i3 i4 i5 i6 i7 i8 i9 i10 i11 i12 i13 k).2.2.2.2.2.2.2.2.2.2.1 ∧ PQ i12 i13 (L1_X11_who1 cA pw pe de mn K ta y i0 i1 i2 i3 i4 i5 i6 i7 i8 i9 i10 i11 i12 i13 k).2.2.2.2.2.2.2.2.2.2.2.2.1 (L1_X11_who1 cA pw pe de mn K ta y i0 i1 i2 i3 i4 i5 i6 i7 i8 i9 i10 i11 i12 i13 k).2.2.2.2.2.2.2.2.2.2.2.2.2
  | 0 => ⟨h, PQ.rfl'⟩
  | k + 1 => by
    have ih := wh1 (cA := cA) (pw := pw) (mn := mn) (K := K) (de := de) hpe hta hy (i0 := i0) (i1 := i1) (i2 := i2) (i3 := i3) (i4 := i4) (i5 := i5) (i6 := i6) (i7 := i7) (i8 := i8) (i9 := i9) (i10 := i10) (i11 := i11) (i12 := i12) (i13 := i13) h k
    have e : L1_X11_who1 cA pw pe de mn K ta y i0 i1 i2 i3 i4 i5 i6 i7 i8 i9 i10 i11 i12 i13 (k + 1) = L1_X11_who1s cA pw pe de mn K ta y k (L1_X11_who1 cA pw pe de mn K ta y i0 i1 i2 i3 i4 i5 i6 i7 i8 i9 i10 i11 i12 i13 k).1 (L1_X11_who1 cA pw pe de mn K ta y i0 i1 i2 i3 i4 i5 i6 i7 i8 i9 i10 i11 i12 i13 k).2.1 (L1_X11_who1 cA pw pe de mn K ta y i0 i1 i2 i3 i4 i5 i6 i7 i8 i9 i10 i11 i12 i13 k).2.2.1 (L1_X11_who1 cA pw pe de mn K ta y i0 i1 i2 i3 i4 i5 i6 i7 i8 i9 i10 i11 i12 i13 k).2.2.2.1 (L1_X11_who1 cA pw pe de mn K ta y i0 i1 i2 i3 i4 i5 i6 i7 i8 i9 i10 i11 i12 i13 k).2.2.2.2.1 (L1_X11_who1 cA pw pe de mn K ta y i0 i1 i2 i3 i4 i5 i6 i7 i8 i9 i10 i11 i12 i13 k).2.2.2.2.2.1 (L1_X11_who1 cA pw pe de mn K ta y i0 i1 i2 i3 i4 i5 i6 i7 i8 i9 i10 i11 i12 i13 k).2.2.2.2.2.2.1 (L1_X11_who1 cA pw pe de mn K ta y i0 i1 i2 i3 i4 i5 i6 i7 i8 i9 i10 i11 i12 i13 k).2.2.2.2.2.2.2.1 (L1_X11_who1 cA pw pe de mn K ta y i0 i1 i2 i3 i4 i5 i6 i7 i8 i9 i10 i11 i12 i13 k).2.2.2.2.2.2.2.2.1 (L1_X11_who1 cA pw pe de mn K ta y i0 i1 i2 i3 i4 i5 i6 i7 i8 i9 i10 i11 i12 i13 k).2.2.2.2.2.2.2.2.2.1 (L1_X11_who1 cA pw pe de mn K ta y i0 i1 i2 i3 i4 i5 i6 i7 i8 i9 i10 i11 i12 i13 k).2.2.2.2.2.2.2.2.2.2.1 (L1_X11_who1 cA pw pe de mn K ta y i0 i1 i2 i3 i4 i5 i6 i7 i8 i9 i10 i11 i12 i13 k).2.2.2.2.2.2.2.2.2.2.2.1 (L1_X11_who1 cA pw pe de mn K ta y i0 i1 i2 i3 i4 i5 i6 i7 i8 i9 i10 i11 i12 i13 k).2.2.2.2.2.2.2.2.2.2.2.2.1 (L1_X11_who1 cA pw pe de mn K ta y i0 i1 i2 i3 i4 i5 i6 i7 i8 i9 i10 i11 i12 i13 k).2.2.2.2.2.2.2.2.2.2.2.2.2 := rfl
    rw [e]
    generalize L1_X11_who1 cA pw pe de mn K ta y i0 i1 i2 i3 i4 i5 i6 i7 i8 i9 i10 i11 i12 i13 k = s at ih ⊢
    have g := ch_ok (p := s.2.2.2.2.2.2.2.2.2.2.2.2.1) (q := s.2.2.2.2.2.2.2.2.2.2.2.2.2) (zd := de) (zt := tpS pe mn (tN y)) (cA := L1_X7_prepare pe mn K (tN y) cA 24) (pw := pw) (pe := pe) (ct := s.2.1) (nw := s.2.2.1) (nx := s.2.2.2.1) (O := s.2.2.2.2.2.1) (C := s.2.2.2.2.2.2.2.1) (rp := s.2.2.2.2.2.2.2.2.2.2.2.1) (fi := k) (zi0 := s.2.2.2.2.2.2.2.2.1) (zi1 := s.2.2.2.2.2.2.2.2.2.1) hpe hta hy ih.1
    unfold L1_X11_who1s
    split
    · exact ⟨g.1, ih.2.tr g.2⟩
    · exact ⟨g.1, ih.2.tr g.2⟩

theorem rn_y {n : Nat} {f : Nat → Int32} {k : Nat} {lo hi un v i : Int32} (h : ¬ rnr n f k lo hi un = 0) : rnf n f k lo hi un i = i ∧ rnv n f k v = nval n f k ∧ rna n f k = nk2 n f k + 1 ∧ ¬ numNo n f k ∧ ¬ numBad (nval n f k) lo hi un ∧ dg n f (nI (nk2 n f k + 1)) = 0 := by
  by_cases h1 : numNo n f k
  · exact absurd (rn_no (v := 0) (i := 0) h1).1 h
  · by_cases h2 : numBad (nval n f k) lo hi un
    · exact absurd (rn_bad (v := 0) (i := 0) h1 h2).1 h
    · by_cases h3 : dg n f (nI (nk2 n f k + 1)) = 0
      · have := rn_ok (v := v) (i := i) h1 h2 h3
        exact ⟨this.2.2.2, this.2.2.1, this.2.1, h1, h2, h3⟩
      · exact absurd (rn_dig (v := 0) (i := 0) h1 h2 h3).1 h
/-- what a text has told the reference so far: the place, the last number, the rows -/
abbrev RTX : Type := Nat × Int32 × (Nat → Int32) × (Nat → Int32) × (Nat → Int32) × (Nat → Int32) × (Nat → Int32) × (Nat → Int32) × (Nat → Int32) × (Nat → Int32) × (Nat → Int32) × (Nat → Int32) × (Nat → Int32)
abbrev ra1 (n : Nat) (f : Nat → Int32) (k : Nat) : Nat := rna n f k
abbrev ra2 (n : Nat) (f : Nat → Int32) (k : Nat) : Nat := rna n f (ra1 n f k)
abbrev ra3 (n : Nat) (f : Nat → Int32) (k : Nat) : Nat := rna n f (ra2 n f k)
abbrev ra4 (n : Nat) (f : Nat → Int32) (k : Nat) : Nat := rna n f (ra3 n f k)
abbrev va1 (n : Nat) (f : Nat → Int32) (k : Nat) : Int32 := nval n f k
abbrev va2 (n : Nat) (f : Nat → Int32) (k : Nat) : Int32 := nval n f (ra1 n f k)
abbrev va3 (n : Nat) (f : Nat → Int32) (k : Nat) : Int32 := nval n f (ra2 n f k)
abbrev va4 (n : Nat) (f : Nat → Int32) (k : Nat) : Int32 := nval n f (ra3 n f k)
/-- how far a line is read: 1 .. 4 a number fails, 5 all is well -/
def mJ (n : Nat) (f : Nat → Int32) (k : Nat) (mo : Int32) : Nat := if rnr n f k 0 mo (-1) = 0 then 1 else if rnr n f (ra1 n f k) 0 mo (va1 n f k) = 0 then 2 else if rnr n f (ra2 n f k) 1 24 (-1) = 0 then 3 else if rnr n f (ra3 n f k) (va3 n f k) 24 (-1) = 0 then 4 else 5
def mOk (n : Nat) (f : Nat → Int32) (k : Nat) (mo : Int32) : Int32 := if mJ n f k mo = 5 then 1 else 0
def mK (n : Nat) (f : Nat → Int32) (k : Nat) (mo : Int32) : Nat := match mJ n f k mo with
  | 1 => ra1 n f k
  | 2 => ra2 n f k
  | 3 => ra3 n f k
  | _ => ra4 n f k
def mF (n : Nat) (f : Nat → Int32) (k : Nat) (mo : Int32) : Int32 := match mJ n f k mo with
  | 1 => rnf n f k 0 mo (-1) (-1)
  | 2 => rnf n f (ra1 n f k) 0 mo (va1 n f k) (-1)
  | 3 => rnf n f (ra2 n f k) 1 24 (-1) (-1)
  | 4 => rnf n f (ra3 n f k) (va3 n f k) 24 (-1) (-1)
  | _ => -1
def mN (n : Nat) (f : Nat → Int32) (k : Nat) (mo N : Int32) : Int32 := match mJ n f k mo with
  | 1 => rnv n f k N
  | 2 => rnv n f (ra1 n f k) (va1 n f k)
  | 3 => rnv n f (ra2 n f k) (va2 n f k)
  | 4 => rnv n f (ra3 n f k) (va3 n f k)
  | _ => va4 n f k
def g5 {α : Type} (j : Nat) (x y : α) : α := if j = 5 then x else y
theorem g5_1 {α : Type} {x y : α} : g5 1 x y = y := if_neg (by decide)
theorem g5_2 {α : Type} {x y : α} : g5 2 x y = y := if_neg (by decide)
theorem g5_3 {α : Type} {x y : α} : g5 3 x y = y := if_neg (by decide)
theorem g5_4 {α : Type} {x y : α} : g5 4 x y = y := if_neg (by decide)
theorem g5_5 {α : Type} {x y : α} : g5 5 x y = x := if_pos rfl
/-- the rows after a line -/
def mR (n : Nat) (f : Nat → Int32) (v c : Nat) (mo o : Int32) (S : RTX) : RTX :=
  (mK n f S.1 mo, mN n f S.1 mo S.2.1, g5 (mJ n f S.1 mo) (upd S.2.2.1 v (nI (c + 1))) S.2.2.1, S.2.2.2.1, S.2.2.2.2.1, S.2.2.2.2.2.1, S.2.2.2.2.2.2.1, g5 (mJ n f S.1 mo) (upd S.2.2.2.2.2.2.2.1 (12 * v + c) (va1 n f S.1)) S.2.2.2.2.2.2.2.1, g5 (mJ n f S.1 mo) (upd S.2.2.2.2.2.2.2.2.1 (12 * v + c) (va2 n f S.1)) S.2.2.2.2.2.2.2.2.1, g5 (mJ n f S.1 mo) (upd S.2.2.2.2.2.2.2.2.2.1 (12 * v + c) (va3 n f S.1)) S.2.2.2.2.2.2.2.2.2.1, g5 (mJ n f S.1 mo) (upd S.2.2.2.2.2.2.2.2.2.2.1 (12 * v + c) (va4 n f S.1)) S.2.2.2.2.2.2.2.2.2.2.1, g5 (mJ n f S.1 mo) (upd S.2.2.2.2.2.2.2.2.2.2.2.1 (12 * v + c) (-1)) S.2.2.2.2.2.2.2.2.2.2.2.1, g5 (mJ n f S.1 mo) (upd S.2.2.2.2.2.2.2.2.2.2.2.2 (12 * v + c) (vp_nar .boolean o)) S.2.2.2.2.2.2.2.2.2.2.2.2)
theorem mOk_n {n : Nat} {f : Nat → Int32} {k : Nat} {mo : Int32} (h5 : ¬ mJ n f k mo = 5) : mOk n f k mo = 0 := if_neg h5
theorem mJ_1 {n : Nat} {f : Nat → Int32} {k : Nat} {mo N : Int32} (h : rnr n f k 0 mo (-1) = 0) : mJ n f k mo = 1 ∧ mK n f k mo = ra1 n f k ∧ mF n f k mo = rnf n f k 0 mo (-1) (-1) ∧ mN n f k mo N = rnv n f k N := by
  have e : mJ n f k mo = 1 := if_pos h
  exact ⟨e, by simp only [mK, e], by simp only [mF, e], by simp only [mN, e]⟩
theorem mJ_2 {n : Nat} {f : Nat → Int32} {k : Nat} {mo N : Int32} (h1 : ¬ rnr n f k 0 mo (-1) = 0) (h : rnr n f (ra1 n f k) 0 mo (va1 n f k) = 0) : mJ n f k mo = 2 ∧ mK n f k mo = ra2 n f k ∧ mF n f k mo = rnf n f (ra1 n f k) 0 mo (va1 n f k) (-1) ∧ mN n f k mo N = rnv n f (ra1 n f k) (va1 n f k) := by
  have e : mJ n f k mo = 2 := by rw [mJ, if_neg h1, if_pos h]
  exact ⟨e, by simp only [mK, e], by simp only [mF, e], by simp only [mN, e]⟩
theorem mJ_3 {n : Nat} {f : Nat → Int32} {k : Nat} {mo N : Int32} (h1 : ¬ rnr n f k 0 mo (-1) = 0) (h2 : ¬ rnr n f (ra1 n f k) 0 mo (va1 n f k) = 0) (h : rnr n f (ra2 n f k) 1 24 (-1) = 0) : mJ n f k mo = 3 ∧ mK n f k mo = ra3 n f k ∧ mF n f k mo = rnf n f (ra2 n f k) 1 24 (-1) (-1) ∧ mN n f k mo N = rnv n f (ra2 n f k) (va2 n f k) := by
  have e : mJ n f k mo = 3 := by rw [mJ, if_neg h1, if_neg h2, if_pos h]
  exact ⟨e, by simp only [mK, e], by simp only [mF, e], by simp only [mN, e]⟩
theorem mJ_4 {n : Nat} {f : Nat → Int32} {k : Nat} {mo N : Int32} (h1 : ¬ rnr n f k 0 mo (-1) = 0) (h2 : ¬ rnr n f (ra1 n f k) 0 mo (va1 n f k) = 0) (h3 : ¬ rnr n f (ra2 n f k) 1 24 (-1) = 0) (h : rnr n f (ra3 n f k) (va3 n f k) 24 (-1) = 0) : mJ n f k mo = 4 ∧ mK n f k mo = ra4 n f k ∧ mF n f k mo = rnf n f (ra3 n f k) (va3 n f k) 24 (-1) (-1) ∧ mN n f k mo N = rnv n f (ra3 n f k) (va3 n f k) := by
  have e : mJ n f k mo = 4 := by rw [mJ, if_neg h1, if_neg h2, if_neg h3, if_pos h]
  exact ⟨e, by simp only [mK, e], by simp only [mF, e], by simp only [mN, e]⟩
theorem mJ_5 {n : Nat} {f : Nat → Int32} {k : Nat} {mo N : Int32} (h1 : ¬ rnr n f k 0 mo (-1) = 0) (h2 : ¬ rnr n f (ra1 n f k) 0 mo (va1 n f k) = 0) (h3 : ¬ rnr n f (ra2 n f k) 1 24 (-1) = 0) (h : ¬ rnr n f (ra3 n f k) (va3 n f k) 24 (-1) = 0) : mJ n f k mo = 5 ∧ mK n f k mo = ra4 n f k ∧ mF n f k mo = -1 ∧ mN n f k mo N = va4 n f k ∧ mOk n f k mo = 1 := by
  have e : mJ n f k mo = 5 := by rw [mJ, if_neg h1, if_neg h2, if_neg h3, if_neg h]
  exact ⟨e, by simp only [mK, e], by simp only [mF, e], by simp only [mN, e], if_pos e⟩
theorem ra_le {n k : Nat} {f : Nat → Int32} (hn : n ≤ 400) (hk : k ≤ n) : ra1 n f k ≤ n ∧ ra2 n f k ≤ n ∧ ra3 n f k ≤ n ∧ ra4 n f k ≤ n := by
  have h1 : ra1 n f k ≤ n := rna_le hn hk
  have h2 : ra2 n f k ≤ n := rna_le hn h1
  have h3 : ra3 n f k ≤ n := rna_le hn h2
  exact ⟨h1, h2, h3, rna_le hn h3⟩
theorem mK_le {n k : Nat} {f : Nat → Int32} {mo : Int32} (hn : n ≤ 400) (hk : k ≤ n) : mK n f k mo ≤ n := by
  obtain ⟨h1, h2, h3, h4⟩ := ra_le (f := f) hn hk
  unfold mK
  split <;> assumption
/-- a bit of news (or a deaf one): whether, the fault, the place, the number, the row -/
def bJ (n : Nat) (f : Nat → Int32) (k : Nat) (mo h : Int32) : Nat := if rnr n f k 0 mo (-1) = 0 then 1 else if h = 0 then 3 else if rnr n f (ra1 n f k) 0 3 (-1) = 0 then 2 else 4
def bOk (n : Nat) (f : Nat → Int32) (k : Nat) (mo h : Int32) : Int32 := if bJ n f k mo h < 3 then 0 else 1
def bK (n : Nat) (f : Nat → Int32) (k : Nat) (mo h : Int32) : Nat := match bJ n f k mo h with
  | 1 => ra1 n f k
  | 3 => ra1 n f k
  | _ => ra2 n f k
def bF (n : Nat) (f : Nat → Int32) (k : Nat) (mo h : Int32) : Int32 := match bJ n f k mo h with
  | 1 => rnf n f k 0 mo (-1) (-1)
  | 2 => rnf n f (ra1 n f k) 0 3 (-1) (-1)
  | _ => -1
def bN (n : Nat) (f : Nat → Int32) (k : Nat) (mo h N : Int32) : Int32 := match bJ n f k mo h with
  | 1 => rnv n f k N
  | 2 => rnv n f (ra1 n f k) (va1 n f k)
  | 3 => va1 n f k
  | _ => va2 n f k
def bG (n : Nat) (f : Nat → Int32) (k v : Nat) (mo h : Int32) (r : Nat → Int32) : Nat → Int32 := match bJ n f k mo h with
  | 3 => upd r v (r v ||| ((1 : Int32) <<< (va1 n f k &&& 31)))
  | 4 => upd r (nI (4 * v) + va2 n f k).toNatClampNeg (r (nI (4 * v) + va2 n f k).toNatClampNeg ||| ((1 : Int32) <<< (va1 n f k &&& 31)))
  | _ => r
theorem bJ_1 {n : Nat} {f : Nat → Int32} {k v : Nat} {mo h N : Int32} {r : Nat → Int32} (h1 : rnr n f k 0 mo (-1) = 0) : bOk n f k mo h = 0 ∧ bK n f k mo h = ra1 n f k ∧ bF n f k mo h = rnf n f k 0 mo (-1) (-1) ∧ bN n f k mo h N = rnv n f k N ∧ bG n f k v mo h r = r := by
  have e : bJ n f k mo h = 1 := if_pos h1
  exact ⟨by rw [bOk, e]; rfl, by simp only [bK, e], by simp only [bF, e], by simp only [bN, e], by simp only [bG, e]⟩
theorem bJ_2 {n : Nat} {f : Nat → Int32} {k v : Nat} {mo h N : Int32} {r : Nat → Int32} (h1 : ¬ rnr n f k 0 mo (-1) = 0) (h2 : ¬ h = 0) (h3 : rnr n f (ra1 n f k) 0 3 (-1) = 0) : bOk n f k mo h = 0 ∧ bK n f k mo h = ra2 n f k ∧ bF n f k mo h = rnf n f (ra1 n f k) 0 3 (-1) (-1) ∧ bN n f k mo h N = rnv n f (ra1 n f k) (va1 n f k) ∧ bG n f k v mo h r = r := by
  have e : bJ n f k mo h = 2 := by rw [bJ, if_neg h1, if_neg h2, if_pos h3]
  exact ⟨by rw [bOk, e]; rfl, by simp only [bK, e], by simp only [bF, e], by simp only [bN, e], by simp only [bG, e]⟩
theorem bJ_3 {n : Nat} {f : Nat → Int32} {k v : Nat} {mo h N : Int32} {r : Nat → Int32} (h1 : ¬ rnr n f k 0 mo (-1) = 0) (h2 : h = 0) : bOk n f k mo h = 1 ∧ bK n f k mo h = ra1 n f k ∧ bF n f k mo h = -1 ∧ bN n f k mo h N = va1 n f k ∧ bG n f k v mo h r = upd r v (r v ||| ((1 : Int32) <<< (va1 n f k &&& 31))) := by
  have e : bJ n f k mo h = 3 := by rw [bJ, if_neg h1, if_pos h2]
  exact ⟨by rw [bOk, e]; rfl, by simp only [bK, e], by simp only [bF, e], by simp only [bN, e], by simp only [bG, e]⟩
theorem bJ_4 {n : Nat} {f : Nat → Int32} {k v : Nat} {mo h N : Int32} {r : Nat → Int32} (h1 : ¬ rnr n f k 0 mo (-1) = 0) (h2 : ¬ h = 0) (h3 : ¬ rnr n f (ra1 n f k) 0 3 (-1) = 0) : bOk n f k mo h = 1 ∧ bK n f k mo h = ra2 n f k ∧ bF n f k mo h = -1 ∧ bN n f k mo h N = va2 n f k ∧ bG n f k v mo h r = upd r (nI (4 * v) + va2 n f k).toNatClampNeg (r (nI (4 * v) + va2 n f k).toNatClampNeg ||| ((1 : Int32) <<< (va1 n f k &&& 31))) := by
  have e : bJ n f k mo h = 4 := by rw [bJ, if_neg h1, if_neg h2, if_neg h3]
  exact ⟨by rw [bOk, e]; rfl, by simp only [bK, e], by simp only [bF, e], by simp only [bN, e], by simp only [bG, e]⟩
theorem bK_le {n k : Nat} {f : Nat → Int32} {mo h : Int32} (hn : n ≤ 400) (hk : k ≤ n) : bK n f k mo h ≤ n := by
  obtain ⟨h1, h2, h3, h4⟩ := ra_le (f := f) hn hk
  unfold bK
  split <;> assumption
theorem mOk_z {n : Nat} {f : Nat → Int32} {k : Nat} {mo : Int32} : narrow .boolean (.int (mOk n f k mo)) = .int (mOk n f k mo) := by unfold mOk; split <;> rfl
theorem bOk_z {n : Nat} {f : Nat → Int32} {k : Nat} {mo h : Int32} : narrow .boolean (.int (bOk n f k mo h)) = .int (bOk n f k mo h) := by unfold bOk; split <;> rfl
theorem in03 {x : Int32} (h1 : ¬ x < 0) (h2 : ¬ 3 < x) {v N : Nat} (hv : 4 * v + 3 < N) (hN : N < 2 ^ 31) : vp_in (nI (4 * v) + x) N := by
  rw [fa_lt, i0] at h1
  rw [fa_lt, show (3 : Int32).toInt = 3 by decide] at h2
  obtain ⟨j, hj⟩ : ∃ j : Nat, x = nI j ∧ j ≤ 3 := ⟨x.toInt.toNat, Int32.toInt_inj.mp (by rw [nI_toInt (by omega)]; omega), by omega⟩
  rw [hj.1, nI_add]
  exact vp_in_nI (by omega) hN
theorem m_1474 : (Cond.code yX12_readLine prog_14_method_13_code 8 (Option.some FieldType.boolean)) ∈ BW := bw (tb7 34 rfl) (by decide +kernel)
theorem dX12_readLine_0 : decode cX12_readLine 0 = .ok (.bipush 12, 2) := DX12_readLine _ _ _ rfl
theorem dX12_readLine_2 : decode cX12_readLine 2 = .ok (.iload_n 1, 1) := DX12_readLine _ _ _ rfl
theorem dX12_readLine_3 : decode cX12_readLine 3 = .ok (.imul, 1) := DX12_readLine _ _ _ rfl
theorem dX12_readLine_4 : decode cX12_readLine 4 = .ok (.aload_n 0, 1) := DX12_readLine _ _ _ rfl
theorem dX12_readLine_5 : decode cX12_readLine 5 = .ok (.getfield 17, 3) := DX12_readLine _ _ _ rfl
theorem dX12_readLine_8 : decode cX12_readLine 8 = .ok (.iload_n 1, 1) := DX12_readLine _ _ _ rfl
theorem dX12_readLine_9 : decode cX12_readLine 9 = .ok (.iaload, 1) := DX12_readLine _ _ _ rfl
theorem dX12_readLine_10 : decode cX12_readLine 10 = .ok (.iadd, 1) := DX12_readLine _ _ _ rfl
theorem dX12_readLine_11 : decode cX12_readLine 11 = .ok (.istore_n 3, 1) := DX12_readLine _ _ _ rfl
theorem dX12_readLine_12 : decode cX12_readLine 12 = .ok (.aload_n 0, 1) := DX12_readLine _ _ _ rfl
theorem dX12_readLine_13 : decode cX12_readLine 13 = .ok (.getfield 13, 3) := DX12_readLine _ _ _ rfl
theorem dX12_readLine_16 : decode cX12_readLine 16 = .ok (.iload_n 1, 1) := DX12_readLine _ _ _ rfl
theorem dX12_readLine_17 : decode cX12_readLine 17 = .ok (.iaload, 1) := DX12_readLine _ _ _ rfl
theorem dX12_readLine_18 : decode cX12_readLine 18 = .ok (.iconst 1, 1) := DX12_readLine _ _ _ rfl
theorem dX12_readLine_19 : decode cX12_readLine 19 = .ok (.isub, 1) := DX12_readLine _ _ _ rfl
theorem dX12_readLine_20 : decode cX12_readLine 20 = .ok (.istore 4, 2) := DX12_readLine _ _ _ rfl
theorem dX12_readLine_22 : decode cX12_readLine 22 = .ok (.aload_n 0, 1) := DX12_readLine _ _ _ rfl
theorem dX12_readLine_23 : decode cX12_readLine 23 = .ok (.iconst 0, 1) := DX12_readLine _ _ _ rfl
theorem dX12_readLine_24 : decode cX12_readLine 24 = .ok (.iload 4, 2) := DX12_readLine _ _ _ rfl
theorem dX12_readLine_26 : decode cX12_readLine 26 = .ok (.iconst (-1), 1) := DX12_readLine _ _ _ rfl
theorem m_1456 : (Cond.methodLink "NoonValleyModel" 202 yX12_number) ∈ BW := bw (tb7 16 (by decide +kernel)) (by decide +kernel)
theorem m_1458 : (Cond.instanceMethod yX12_number) ∈ BW := bw (tb7 18 (by decide +kernel)) (by decide +kernel)
theorem s_4_8 : (Cond.selects RX12 yX12_number yX12_number) ∈ BW := bw (sl4 (y := yX12_number) (n := 64) 8 (by decide +kernel)) (by decide +kernel)
theorem vX12_202 : LV RX12 202 RX12 yX12_number cX12_number 4 (some .boolean) 3 := ⟨m_1456, m_1458, s_4_8, m_12, m_1459, rfl, by decide, by decide, by decide +kernel⟩
theorem dX12_readLine_27 : decode cX12_readLine 27 = .ok (.invokevirtual 202, 3) := DX12_readLine _ _ _ rfl
theorem dX12_readLine_30 : decode cX12_readLine 30 = .ok (.ifCond .ne 5, 3) := DX12_readLine _ _ _ rfl
theorem dX12_readLine_35 : decode cX12_readLine 35 = .ok (.aload_n 0, 1) := DX12_readLine _ _ _ rfl
theorem dX12_readLine_36 : decode cX12_readLine 36 = .ok (.getfield 195, 3) := DX12_readLine _ _ _ rfl
theorem dX12_readLine_39 : decode cX12_readLine 39 = .ok (.istore 5, 2) := DX12_readLine _ _ _ rfl
theorem dX12_readLine_41 : decode cX12_readLine 41 = .ok (.aload_n 0, 1) := DX12_readLine _ _ _ rfl
theorem dX12_readLine_42 : decode cX12_readLine 42 = .ok (.iconst 0, 1) := DX12_readLine _ _ _ rfl
theorem dX12_readLine_43 : decode cX12_readLine 43 = .ok (.iload 4, 2) := DX12_readLine _ _ _ rfl
theorem dX12_readLine_45 : decode cX12_readLine 45 = .ok (.iload 5, 2) := DX12_readLine _ _ _ rfl
theorem dX12_readLine_47 : decode cX12_readLine 47 = .ok (.invokevirtual 202, 3) := DX12_readLine _ _ _ rfl
theorem dX12_readLine_50 : decode cX12_readLine 50 = .ok (.ifCond .ne 5, 3) := DX12_readLine _ _ _ rfl
theorem dX12_readLine_55 : decode cX12_readLine 55 = .ok (.aload_n 0, 1) := DX12_readLine _ _ _ rfl
theorem dX12_readLine_56 : decode cX12_readLine 56 = .ok (.getfield 195, 3) := DX12_readLine _ _ _ rfl
theorem dX12_readLine_59 : decode cX12_readLine 59 = .ok (.istore 6, 2) := DX12_readLine _ _ _ rfl
theorem dX12_readLine_61 : decode cX12_readLine 61 = .ok (.aload_n 0, 1) := DX12_readLine _ _ _ rfl
theorem dX12_readLine_62 : decode cX12_readLine 62 = .ok (.iconst 1, 1) := DX12_readLine _ _ _ rfl
theorem dX12_readLine_63 : decode cX12_readLine 63 = .ok (.bipush 24, 2) := DX12_readLine _ _ _ rfl
theorem dX12_readLine_65 : decode cX12_readLine 65 = .ok (.iconst (-1), 1) := DX12_readLine _ _ _ rfl
theorem dX12_readLine_66 : decode cX12_readLine 66 = .ok (.invokevirtual 202, 3) := DX12_readLine _ _ _ rfl
theorem dX12_readLine_69 : decode cX12_readLine 69 = .ok (.ifCond .ne 5, 3) := DX12_readLine _ _ _ rfl
theorem dX12_readLine_74 : decode cX12_readLine 74 = .ok (.aload_n 0, 1) := DX12_readLine _ _ _ rfl
theorem dX12_readLine_75 : decode cX12_readLine 75 = .ok (.getfield 195, 3) := DX12_readLine _ _ _ rfl
theorem dX12_readLine_78 : decode cX12_readLine 78 = .ok (.istore 7, 2) := DX12_readLine _ _ _ rfl
theorem dX12_readLine_80 : decode cX12_readLine 80 = .ok (.aload_n 0, 1) := DX12_readLine _ _ _ rfl
theorem dX12_readLine_81 : decode cX12_readLine 81 = .ok (.iload 7, 2) := DX12_readLine _ _ _ rfl
theorem dX12_readLine_83 : decode cX12_readLine 83 = .ok (.bipush 24, 2) := DX12_readLine _ _ _ rfl
theorem dX12_readLine_85 : decode cX12_readLine 85 = .ok (.iconst (-1), 1) := DX12_readLine _ _ _ rfl
theorem dX12_readLine_86 : decode cX12_readLine 86 = .ok (.invokevirtual 202, 3) := DX12_readLine _ _ _ rfl
theorem dX12_readLine_89 : decode cX12_readLine 89 = .ok (.ifCond .ne 5, 3) := DX12_readLine _ _ _ rfl
theorem dX12_readLine_94 : decode cX12_readLine 94 = .ok (.aload_n 0, 1) := DX12_readLine _ _ _ rfl
theorem dX12_readLine_95 : decode cX12_readLine 95 = .ok (.getfield 32, 3) := DX12_readLine _ _ _ rfl
theorem dX12_readLine_98 : decode cX12_readLine 98 = .ok (.iload_n 3, 1) := DX12_readLine _ _ _ rfl
theorem dX12_readLine_99 : decode cX12_readLine 99 = .ok (.iload 5, 2) := DX12_readLine _ _ _ rfl
theorem dX12_readLine_101 : decode cX12_readLine 101 = .ok (.iastore, 1) := DX12_readLine _ _ _ rfl
theorem dX12_readLine_102 : decode cX12_readLine 102 = .ok (.aload_n 0, 1) := DX12_readLine _ _ _ rfl
theorem dX12_readLine_103 : decode cX12_readLine 103 = .ok (.getfield 35, 3) := DX12_readLine _ _ _ rfl
theorem dX12_readLine_106 : decode cX12_readLine 106 = .ok (.iload_n 3, 1) := DX12_readLine _ _ _ rfl
theorem dX12_readLine_107 : decode cX12_readLine 107 = .ok (.iload 6, 2) := DX12_readLine _ _ _ rfl
theorem dX12_readLine_109 : decode cX12_readLine 109 = .ok (.iastore, 1) := DX12_readLine _ _ _ rfl
theorem dX12_readLine_110 : decode cX12_readLine 110 = .ok (.aload_n 0, 1) := DX12_readLine _ _ _ rfl
theorem dX12_readLine_111 : decode cX12_readLine 111 = .ok (.getfield 38, 3) := DX12_readLine _ _ _ rfl
theorem dX12_readLine_114 : decode cX12_readLine 114 = .ok (.iload_n 3, 1) := DX12_readLine _ _ _ rfl
theorem dX12_readLine_115 : decode cX12_readLine 115 = .ok (.iload 7, 2) := DX12_readLine _ _ _ rfl
theorem dX12_readLine_117 : decode cX12_readLine 117 = .ok (.iastore, 1) := DX12_readLine _ _ _ rfl
theorem dX12_readLine_118 : decode cX12_readLine 118 = .ok (.aload_n 0, 1) := DX12_readLine _ _ _ rfl
theorem dX12_readLine_119 : decode cX12_readLine 119 = .ok (.getfield 41, 3) := DX12_readLine _ _ _ rfl
theorem dX12_readLine_122 : decode cX12_readLine 122 = .ok (.iload_n 3, 1) := DX12_readLine _ _ _ rfl
theorem dX12_readLine_123 : decode cX12_readLine 123 = .ok (.aload_n 0, 1) := DX12_readLine _ _ _ rfl
theorem dX12_readLine_124 : decode cX12_readLine 124 = .ok (.getfield 195, 3) := DX12_readLine _ _ _ rfl
theorem dX12_readLine_127 : decode cX12_readLine 127 = .ok (.iastore, 1) := DX12_readLine _ _ _ rfl
theorem dX12_readLine_128 : decode cX12_readLine 128 = .ok (.aload_n 0, 1) := DX12_readLine _ _ _ rfl
theorem dX12_readLine_129 : decode cX12_readLine 129 = .ok (.getfield 47, 3) := DX12_readLine _ _ _ rfl
theorem dX12_readLine_132 : decode cX12_readLine 132 = .ok (.iload_n 3, 1) := DX12_readLine _ _ _ rfl
theorem dX12_readLine_133 : decode cX12_readLine 133 = .ok (.iload_n 2, 1) := DX12_readLine _ _ _ rfl
theorem dX12_readLine_134 : decode cX12_readLine 134 = .ok (.bastore, 1) := DX12_readLine _ _ _ rfl
theorem dX12_readLine_135 : decode cX12_readLine 135 = .ok (.aload_n 0, 1) := DX12_readLine _ _ _ rfl
theorem dX12_readLine_136 : decode cX12_readLine 136 = .ok (.getfield 44, 3) := DX12_readLine _ _ _ rfl
theorem dX12_readLine_139 : decode cX12_readLine 139 = .ok (.iload_n 3, 1) := DX12_readLine _ _ _ rfl
theorem dX12_readLine_140 : decode cX12_readLine 140 = .ok (.iconst (-1), 1) := DX12_readLine _ _ _ rfl
theorem dX12_readLine_141 : decode cX12_readLine 141 = .ok (.iastore, 1) := DX12_readLine _ _ _ rfl
theorem dX12_readLine_142 : decode cX12_readLine 142 = .ok (.aload_n 0, 1) := DX12_readLine _ _ _ rfl
theorem dX12_readLine_143 : decode cX12_readLine 143 = .ok (.getfield 17, 3) := DX12_readLine _ _ _ rfl
theorem dX12_readLine_146 : decode cX12_readLine 146 = .ok (.iload_n 1, 1) := DX12_readLine _ _ _ rfl
theorem dX12_readLine_147 : decode cX12_readLine 147 = .ok (.dup2, 1) := DX12_readLine _ _ _ rfl
theorem dX12_readLine_148 : decode cX12_readLine 148 = .ok (.iaload, 1) := DX12_readLine _ _ _ rfl
theorem dX12_readLine_149 : decode cX12_readLine 149 = .ok (.iconst 1, 1) := DX12_readLine _ _ _ rfl
theorem dX12_readLine_150 : decode cX12_readLine 150 = .ok (.iadd, 1) := DX12_readLine _ _ _ rfl
theorem dX12_readLine_151 : decode cX12_readLine 151 = .ok (.iastore, 1) := DX12_readLine _ _ _ rfl
theorem dX12_readLine_152 : decode cX12_readLine 152 = .ok (.iconst 1, 1) := DX12_readLine _ _ _ rfl
theorem dX12_readLine_153 : decode cX12_readLine 153 = .ok (.ireturn, 1) := DX12_readLine _ _ _ rfl
theorem dX12_readLine_92 : decode cX12_readLine 92 = .ok (.iconst 0, 1) := DX12_readLine _ _ _ rfl
theorem dX12_readLine_93 : decode cX12_readLine 93 = .ok (.ireturn, 1) := DX12_readLine _ _ _ rfl
theorem dX12_readLine_72 : decode cX12_readLine 72 = .ok (.iconst 0, 1) := DX12_readLine _ _ _ rfl
theorem dX12_readLine_73 : decode cX12_readLine 73 = .ok (.ireturn, 1) := DX12_readLine _ _ _ rfl
theorem dX12_readLine_53 : decode cX12_readLine 53 = .ok (.iconst 0, 1) := DX12_readLine _ _ _ rfl
theorem dX12_readLine_54 : decode cX12_readLine 54 = .ok (.ireturn, 1) := DX12_readLine _ _ _ rfl
theorem dX12_readLine_33 : decode cX12_readLine 33 = .ok (.iconst 0, 1) := DX12_readLine _ _ _ rfl
theorem dX12_readLine_34 : decode cX12_readLine 34 = .ok (.ireturn, 1) := DX12_readLine _ _ _ rfl
theorem m_1478 : (Cond.code yX12_readBit prog_14_method_14_code 6 (Option.some FieldType.boolean)) ∈ BW := bw (tb7 38 rfl) (by decide +kernel)
theorem dX12_readBit_0 : decode cX12_readBit 0 = .ok (.aload_n 0, 1) := DX12_readBit _ _ _ rfl
theorem dX12_readBit_1 : decode cX12_readBit 1 = .ok (.iconst 0, 1) := DX12_readBit _ _ _ rfl
theorem dX12_readBit_2 : decode cX12_readBit 2 = .ok (.aload_n 0, 1) := DX12_readBit _ _ _ rfl
theorem dX12_readBit_3 : decode cX12_readBit 3 = .ok (.getfield 13, 3) := DX12_readBit _ _ _ rfl
theorem dX12_readBit_6 : decode cX12_readBit 6 = .ok (.iload_n 1, 1) := DX12_readBit _ _ _ rfl
theorem dX12_readBit_7 : decode cX12_readBit 7 = .ok (.iaload, 1) := DX12_readBit _ _ _ rfl
theorem dX12_readBit_8 : decode cX12_readBit 8 = .ok (.iconst 1, 1) := DX12_readBit _ _ _ rfl
theorem dX12_readBit_9 : decode cX12_readBit 9 = .ok (.isub, 1) := DX12_readBit _ _ _ rfl
theorem dX12_readBit_10 : decode cX12_readBit 10 = .ok (.iconst (-1), 1) := DX12_readBit _ _ _ rfl
theorem dX12_readBit_11 : decode cX12_readBit 11 = .ok (.invokevirtual 202, 3) := DX12_readBit _ _ _ rfl
theorem dX12_readBit_14 : decode cX12_readBit 14 = .ok (.ifCond .ne 5, 3) := DX12_readBit _ _ _ rfl
theorem dX12_readBit_19 : decode cX12_readBit 19 = .ok (.aload_n 0, 1) := DX12_readBit _ _ _ rfl
theorem dX12_readBit_20 : decode cX12_readBit 20 = .ok (.getfield 195, 3) := DX12_readBit _ _ _ rfl
theorem dX12_readBit_23 : decode cX12_readBit 23 = .ok (.istore 4, 2) := DX12_readBit _ _ _ rfl
theorem dX12_readBit_25 : decode cX12_readBit 25 = .ok (.iload_n 3, 1) := DX12_readBit _ _ _ rfl
theorem dX12_readBit_26 : decode cX12_readBit 26 = .ok (.ifCond .eq 15, 3) := DX12_readBit _ _ _ rfl
theorem dX12_readBit_41 : decode cX12_readBit 41 = .ok (.iload_n 3, 1) := DX12_readBit _ _ _ rfl
theorem dX12_readBit_42 : decode cX12_readBit 42 = .ok (.ifCond .eq 14, 3) := DX12_readBit _ _ _ rfl
theorem dX12_readBit_56 : decode cX12_readBit 56 = .ok (.iload_n 1, 1) := DX12_readBit _ _ _ rfl
theorem dX12_readBit_57 : decode cX12_readBit 57 = .ok (.istore 5, 2) := DX12_readBit _ _ _ rfl
theorem dX12_readBit_59 : decode cX12_readBit 59 = .ok (.aload_n 2, 1) := DX12_readBit _ _ _ rfl
theorem dX12_readBit_60 : decode cX12_readBit 60 = .ok (.iload 5, 2) := DX12_readBit _ _ _ rfl
theorem dX12_readBit_62 : decode cX12_readBit 62 = .ok (.dup2, 1) := DX12_readBit _ _ _ rfl
theorem dX12_readBit_63 : decode cX12_readBit 63 = .ok (.iaload, 1) := DX12_readBit _ _ _ rfl
theorem dX12_readBit_64 : decode cX12_readBit 64 = .ok (.iconst 1, 1) := DX12_readBit _ _ _ rfl
theorem dX12_readBit_65 : decode cX12_readBit 65 = .ok (.iload 4, 2) := DX12_readBit _ _ _ rfl
theorem dX12_readBit_67 : decode cX12_readBit 67 = .ok (.ishl, 1) := DX12_readBit _ _ _ rfl
theorem dX12_readBit_68 : decode cX12_readBit 68 = .ok (.ior, 1) := DX12_readBit _ _ _ rfl
theorem dX12_readBit_69 : decode cX12_readBit 69 = .ok (.iastore, 1) := DX12_readBit _ _ _ rfl
theorem dX12_readBit_70 : decode cX12_readBit 70 = .ok (.iconst 1, 1) := DX12_readBit _ _ _ rfl
theorem dX12_readBit_71 : decode cX12_readBit 71 = .ok (.ireturn, 1) := DX12_readBit _ _ _ rfl
theorem dX12_readBit_29 : decode cX12_readBit 29 = .ok (.aload_n 0, 1) := DX12_readBit _ _ _ rfl
theorem dX12_readBit_30 : decode cX12_readBit 30 = .ok (.iconst 0, 1) := DX12_readBit _ _ _ rfl
theorem dX12_readBit_31 : decode cX12_readBit 31 = .ok (.iconst 3, 1) := DX12_readBit _ _ _ rfl
theorem dX12_readBit_32 : decode cX12_readBit 32 = .ok (.iconst (-1), 1) := DX12_readBit _ _ _ rfl
theorem dX12_readBit_33 : decode cX12_readBit 33 = .ok (.invokevirtual 202, 3) := DX12_readBit _ _ _ rfl
theorem dX12_readBit_36 : decode cX12_readBit 36 = .ok (.ifCond .ne 5, 3) := DX12_readBit _ _ _ rfl
theorem dX12_readBit_45 : decode cX12_readBit 45 = .ok (.iconst 4, 1) := DX12_readBit _ _ _ rfl
theorem dX12_readBit_46 : decode cX12_readBit 46 = .ok (.iload_n 1, 1) := DX12_readBit _ _ _ rfl
theorem dX12_readBit_47 : decode cX12_readBit 47 = .ok (.imul, 1) := DX12_readBit _ _ _ rfl
theorem dX12_readBit_48 : decode cX12_readBit 48 = .ok (.aload_n 0, 1) := DX12_readBit _ _ _ rfl
theorem dX12_readBit_49 : decode cX12_readBit 49 = .ok (.getfield 195, 3) := DX12_readBit _ _ _ rfl
theorem dX12_readBit_52 : decode cX12_readBit 52 = .ok (.iadd, 1) := DX12_readBit _ _ _ rfl
theorem dX12_readBit_53 : decode cX12_readBit 53 = .ok (.goto 4, 3) := DX12_readBit _ _ _ rfl
theorem dX12_readBit_39 : decode cX12_readBit 39 = .ok (.iconst 0, 1) := DX12_readBit _ _ _ rfl
theorem dX12_readBit_40 : decode cX12_readBit 40 = .ok (.ireturn, 1) := DX12_readBit _ _ _ rfl
theorem dX12_readBit_17 : decode cX12_readBit 17 = .ok (.iconst 0, 1) := DX12_readBit _ _ _ rfl
theorem dX12_readBit_18 : decode cX12_readBit 18 = .ok (.ireturn, 1) := DX12_readBit _ _ _ rfl
set_option maxHeartbeats 40000000 in
set_option maxRecDepth 100000 in
theorem C_X12_readLineG (l : Launch) (g : GG) (h0 b1 b6 b7 b8 b9 b10 b11 b12 b13 b14 b15 b16 b17 b21 b22 b23 b24 b25 b26 b28 b29 b30 b31 b32 b33 b34 b35 b36 b46 b47 b48 b49 b50 b51 b52 b53 b54 b55 b56 b57 b58 b59 b60 b61 b62 b63 : Nat) (i0 i18 i19 i20 i27 i37 i38 i39 i40 i41 i42 i43 i44 i45 : Int32) (f0 : Nat → Int32) (n0 : Nat) (hn0 : n0 ≤ 400) (i5 : Int32) (P Lc La Lb Lf Lt Ld Lo : Nat → Int32) (v lc : Nat) (hv : v ≤ 10) (hc : lc < 12) (hLc : Lc v = nI lc) (k0 : Nat) (hk0 : k0 ≤ n0) (o : Int32) : MetI l g yX12_readLine cX12_readLine 8 (some .boolean) 3 0 0 [.ref h0, .int (nI v), .int o] [(h0, .inr (12, [.int i0, .ref b1, .int (nI n0), .int (nI k0), .int (-1), .int i5, .ref b6, .ref b7, .ref b8, .ref b9, .ref b10, .ref b11, .ref b12, .ref b13, .ref b14, .ref b15, .ref b16, .ref b17, .int i18, .int i19, .int i20, .ref b21, .ref b22, .ref b23, .ref b24, .ref b25, .ref b26, .int i27, .ref b28, .ref b29, .ref b30, .ref b31, .ref b32, .ref b33, .ref b34, .ref b35, .ref b36, .int i37, .int i38, .int i39, .int i40, .int i41, .int i42, .int i43, .int i44, .int i45, .ref b46, .ref b47, .ref b48, .ref b49, .ref b50, .ref b51, .ref b52, .ref b53, .ref b54, .ref b55, .ref b56, .ref b57, .ref b58, .ref b59, .ref b60, .ref b61, .ref b62, .ref b63])), (b1, .inl (g.2.1 0, 400, .inl f0)), (b6, .inl (g.2.1 1, 11, .inl P)), (b7, .inl (g.2.1 1, 11, .inl Lc)), (b12, .inl (g.2.1 1, 132, .inl La)), (b13, .inl (g.2.1 1, 132, .inl Lb)), (b14, .inl (g.2.1 1, 132, .inl Lf)), (b15, .inl (g.2.1 1, 132, .inl Lt)), (b16, .inl (g.2.1 1, 132, .inl Ld)), (b17, .inl (g.2.1 3, 132, .inl Lo))] (fun r u => r = mOk n0 (ub f0) k0 (P v - 1) ∧ u = [(h0, .inr (12, [.int i0, .ref b1, .int (nI n0), .int (nI (mK n0 (ub f0) k0 (P v - 1))), .int (mF n0 (ub f0) k0 (P v - 1)), .int (mN n0 (ub f0) k0 (P v - 1) i5), .ref b6, .ref b7, .ref b8, .ref b9, .ref b10, .ref b11, .ref b12, .ref b13, .ref b14, .ref b15, .ref b16, .ref b17, .int i18, .int i19, .int i20, .ref b21, .ref b22, .ref b23, .ref b24, .ref b25, .ref b26, .int i27, .ref b28, .ref b29, .ref b30, .ref b31, .ref b32, .ref b33, .ref b34, .ref b35, .ref b36, .int i37, .int i38, .int i39, .int i40, .int i41, .int i42, .int i43, .int i44, .int i45, .ref b46, .ref b47, .ref b48, .ref b49, .ref b50, .ref b51, .ref b52, .ref b53, .ref b54, .ref b55, .ref b56, .ref b57, .ref b58, .ref b59, .ref b60, .ref b61, .ref b62, .ref b63])), (b1, .inl (g.2.1 0, 400, .inl f0)), (b6, .inl (g.2.1 1, 11, .inl P)), (b7, .inl (g.2.1 1, 11, .inl (g5 (mJ n0 (ub f0) k0 (P v - 1)) (upd Lc v (nI (lc + 1))) Lc))), (b12, .inl (g.2.1 1, 132, .inl (g5 (mJ n0 (ub f0) k0 (P v - 1)) (upd La (12 * v + lc) (va1 n0 (ub f0) k0)) La))), (b13, .inl (g.2.1 1, 132, .inl (g5 (mJ n0 (ub f0) k0 (P v - 1)) (upd Lb (12 * v + lc) (va2 n0 (ub f0) k0)) Lb))), (b14, .inl (g.2.1 1, 132, .inl (g5 (mJ n0 (ub f0) k0 (P v - 1)) (upd Lf (12 * v + lc) (va3 n0 (ub f0) k0)) Lf))), (b15, .inl (g.2.1 1, 132, .inl (g5 (mJ n0 (ub f0) k0 (P v - 1)) (upd Lt (12 * v + lc) (va4 n0 (ub f0) k0)) Lt))), (b16, .inl (g.2.1 1, 132, .inl (g5 (mJ n0 (ub f0) k0 (P v - 1)) (upd Ld (12 * v + lc) (-1)) Ld))), (b17, .inl (g.2.1 3, 132, .inl (g5 (mJ n0 (ub f0) k0 (P v - 1)) (upd Lo (12 * v + lc) (vp_nar .boolean o)) Lo)))]) := by
  refine MetI.of (own := RX12) rfl (by decide) (Nat.le_of_ble_eq_true rfl) ?_
  intro p e s m below meth c A ls args Q hQ X hr hin hW hl
  have hx := X.1
  have hb := X.2.1
  have hl : lv_has ls 8 [(0, .ref h0), (1, .int (nI v)), (2, .int o)] := hl
  refine lv_bipush (v := 12) (pc := 0) hx hb dX12_readLine_0 (by decide) ?_
  refine lv_iload_n (pc := 2) hx hb dX12_readLine_2 rfl (lv_at hl 1 rfl) ?_
  refine lv_imul (pc := 3) hx hb dX12_readLine_3 ?_
  refine lv_topi (fun v1 ev1 => ?_)
  obtain rfl : v1 = nI (12 * v) := ev1.trans (pk_mul _ _)
  refine lv_aload_n (pc := 4) hx hb dX12_readLine_4 rfl (lv_at hl 0 rfl) ?_
  refine r_get X hW 0 ciX12 7 rfl (by decide) m_1238 rfl rfl dX12_readLine_5 ?_
  refine lv_iload_n (pc := 8) hx hb dX12_readLine_8 rfl (lv_at hl 1 rfl) ?_
  refine r_iald X hW 3 rfl (vp_in_nI (by omega) (by decide)) dX12_readLine_9 ?_
  refine lv_topi (fun v2 ev2 => ?_)
  obtain rfl : v2 = nI lc := ev2.trans (by rw [nI_clamp (by omega)]; exact hLc)
  refine lv_iadd (pc := 10) hx hb dX12_readLine_10 ?_
  refine lv_topi (fun v3 ev3 => ?_)
  obtain rfl : v3 = nI (12 * v + lc) := ev3.trans (nI_add _ _)
  refine lv_istore_n (lv' := [(3, .int (nI (12 * v + lc))), (0, .ref h0), (1, .int (nI v)), (2, .int o)]) (pc := 11) hx hb dX12_readLine_11 rfl hl (by decide) rfl (fun ls hl => ?_)
  refine lv_aload_n (pc := 12) hx hb dX12_readLine_12 rfl (lv_at hl 1 rfl) ?_
  refine r_get X hW 0 ciX12 6 rfl (by decide) m_1237 rfl rfl dX12_readLine_13 ?_
  refine lv_iload_n (pc := 16) hx hb dX12_readLine_16 rfl (lv_at hl 2 rfl) ?_
  refine r_iald X hW 2 rfl (vp_in_nI (by omega) (by decide)) dX12_readLine_17 ?_
  refine lv_topi (fun v4 ev4 => ?_)
  obtain rfl : v4 = P v := ev4.trans (by rw [nI_clamp (by omega)])
  refine lv_iconst (v := 1) (pc := 18) hx hb dX12_readLine_18 (by decide) ?_
  refine lv_isub (pc := 19) hx hb dX12_readLine_19 ?_
  refine lv_topi (fun v5 ev5 => ?_)
  obtain rfl : v5 = P v - 1 := ev5.trans (rfl)
  refine lv_istore (lv' := [(4, .int (P v - 1)), (3, .int (nI (12 * v + lc))), (0, .ref h0), (1, .int (nI v)), (2, .int o)]) (pc := 20) hx hb dX12_readLine_20 hl (by decide) rfl (fun ls hl => ?_)
  refine lv_aload_n (pc := 22) hx hb dX12_readLine_22 rfl (lv_at hl 2 rfl) ?_
  refine lv_iconst (v := 0) (pc := 23) hx hb dX12_readLine_23 (by decide) ?_
  refine lv_iload (pc := 24) hx hb dX12_readLine_24 (lv_at hl 0 rfl) ?_
  refine lv_iconst (v := (-1)) (pc := 26) hx hb dX12_readLine_26 (by decide) ?_
  refine c_Vi (pc := 27) (As := [.int 0, .int (P v - 1), .int (-1)]) (rest := []) (wr := [(b6, .inl (g.2.1 1, 11, .inl P)), (b7, .inl (g.2.1 1, 11, .inl Lc)), (b12, .inl (g.2.1 1, 132, .inl La)), (b13, .inl (g.2.1 1, 132, .inl Lb)), (b14, .inl (g.2.1 1, 132, .inl Lf)), (b15, .inl (g.2.1 1, 132, .inl Lt)), (b16, .inl (g.2.1 1, 132, .inl Ld)), (b17, .inl (g.2.1 3, 132, .inl Lo))]) X hW 0 ciX12 rfl (C_X12_numberG l g h0 b1 b6 b7 b8 b9 b10 b11 b12 b13 b14 b15 b16 b17 b21 b22 b23 b24 b25 b26 b28 b29 b30 b31 b32 b33 b34 b35 b36 b46 b47 b48 b49 b50 b51 b52 b53 b54 b55 b56 b57 b58 b59 b60 b61 b62 b63 i0 (-1) i5 i18 i19 i20 i27 i37 i38 i39 i40 i41 i42 i43 i44 i45 f0 n0 hn0 k0 0 (P v - 1) (-1) (by omega)) vX12_202 [0, 1] [2, 3, 4, 5, 6, 7, 8, 9] rfl rfl rfl rfl rfl rfl hl.1 rfl (Nat.le_of_ble_eq_true rfl) ⟨Nat.le_of_ble_eq_true rfl, Nat.le_of_ble_eq_true rfl⟩ ⟨Nat.le_of_ble_eq_true rfl, Nat.le_of_ble_eq_true rfl⟩ dX12_readLine_27 (fun r6 u9 H locs hq hW => ?_)
  obtain ⟨rfl, rfl⟩ := hq
  have hr27 := rna_le (f := ub f0) hn0 (show k0 ≤ n0 by omega)
  have hW : WD g A s _ _ [(b6, .inl (g.2.1 1, 11, .inl P)), (b7, .inl (g.2.1 1, 11, .inl Lc)), (b12, .inl (g.2.1 1, 132, .inl La)), (b13, .inl (g.2.1 1, 132, .inl Lb)), (b14, .inl (g.2.1 1, 132, .inl Lf)), (b15, .inl (g.2.1 1, 132, .inl Lt)), (b16, .inl (g.2.1 1, 132, .inl Ld)), (b17, .inl (g.2.1 3, 132, .inl Lo)), (h0, .inr (12, [.int i0, .ref b1, .int (nI n0), .int (nI (rna n0 (ub f0) k0)), .int (rnf n0 (ub f0) k0 0 (P v - 1) (-1) (-1)), .int (rnv n0 (ub f0) k0 i5), .ref b6, .ref b7, .ref b8, .ref b9, .ref b10, .ref b11, .ref b12, .ref b13, .ref b14, .ref b15, .ref b16, .ref b17, .int i18, .int i19, .int i20, .ref b21, .ref b22, .ref b23, .ref b24, .ref b25, .ref b26, .int i27, .ref b28, .ref b29, .ref b30, .ref b31, .ref b32, .ref b33, .ref b34, .ref b35, .ref b36, .int i37, .int i38, .int i39, .int i40, .int i41, .int i42, .int i43, .int i44, .int i45, .ref b46, .ref b47, .ref b48, .ref b49, .ref b50, .ref b51, .ref b52, .ref b53, .ref b54, .ref b55, .ref b56, .ref b57, .ref b58, .ref b59, .ref b60, .ref b61, .ref b62, .ref b63])), (b1, .inl (g.2.1 0, 400, .inl f0))] := hW
  refine lv_if_ne (tgt := 35) (pc := 30) hx hb dX12_readLine_30 rfl (fun c7 => ?_) (fun c7 => ?_)
  · have y1 := c7
    rw [(rn_y (v := i5) (i := (-1)) y1).1, (rn_y (v := i5) (i := (-1)) y1).2.1] at hW
    refine lv_aload_n (pc := 35) hx hb dX12_readLine_35 rfl (lv_at hl 2 rfl) ?_
    refine r_get X hW 8 ciX12 5 rfl (by decide) m_1236 rfl rfl dX12_readLine_36 ?_
    refine lv_istore (lv' := [(5, .int (nval n0 (ub f0) k0)), (4, .int (P v - 1)), (3, .int (nI (12 * v + lc))), (0, .ref h0), (1, .int (nI v)), (2, .int o)]) (pc := 39) hx hb dX12_readLine_39 hl (by decide) rfl (fun ls hl => ?_)
    refine lv_aload_n (pc := 41) hx hb dX12_readLine_41 rfl (lv_at hl 3 rfl) ?_
    refine lv_iconst (v := 0) (pc := 42) hx hb dX12_readLine_42 (by decide) ?_
    refine lv_iload (pc := 43) hx hb dX12_readLine_43 (lv_at hl 1 rfl) ?_
    refine lv_iload (pc := 45) hx hb dX12_readLine_45 (lv_at hl 0 rfl) ?_
    refine c_Vi (pc := 47) (As := [.int 0, .int (P v - 1), .int (nval n0 (ub f0) k0)]) (rest := []) (wr := [(b6, .inl (g.2.1 1, 11, .inl P)), (b7, .inl (g.2.1 1, 11, .inl Lc)), (b12, .inl (g.2.1 1, 132, .inl La)), (b13, .inl (g.2.1 1, 132, .inl Lb)), (b14, .inl (g.2.1 1, 132, .inl Lf)), (b15, .inl (g.2.1 1, 132, .inl Lt)), (b16, .inl (g.2.1 1, 132, .inl Ld)), (b17, .inl (g.2.1 3, 132, .inl Lo))]) X hW 8 ciX12 rfl (C_X12_numberG l g h0 b1 b6 b7 b8 b9 b10 b11 b12 b13 b14 b15 b16 b17 b21 b22 b23 b24 b25 b26 b28 b29 b30 b31 b32 b33 b34 b35 b36 b46 b47 b48 b49 b50 b51 b52 b53 b54 b55 b56 b57 b58 b59 b60 b61 b62 b63 i0 (-1) (nval n0 (ub f0) k0) i18 i19 i20 i27 i37 i38 i39 i40 i41 i42 i43 i44 i45 f0 n0 hn0 (rna n0 (ub f0) k0) 0 (P v - 1) (nval n0 (ub f0) k0) (by omega)) vX12_202 [8, 9] [0, 1, 2, 3, 4, 5, 6, 7] rfl rfl rfl rfl rfl rfl hl.1 rfl (Nat.le_of_ble_eq_true rfl) ⟨Nat.le_of_ble_eq_true rfl, Nat.le_of_ble_eq_true rfl⟩ ⟨Nat.le_of_ble_eq_true rfl, Nat.le_of_ble_eq_true rfl⟩ dX12_readLine_47 (fun r8 u9 H locs hq hW => ?_)
    obtain ⟨rfl, rfl⟩ := hq
    have hr47 := rna_le (f := ub f0) hn0 (show (rna n0 (ub f0) k0) ≤ n0 by omega)
    have hW : WD g A s _ _ [(b6, .inl (g.2.1 1, 11, .inl P)), (b7, .inl (g.2.1 1, 11, .inl Lc)), (b12, .inl (g.2.1 1, 132, .inl La)), (b13, .inl (g.2.1 1, 132, .inl Lb)), (b14, .inl (g.2.1 1, 132, .inl Lf)), (b15, .inl (g.2.1 1, 132, .inl Lt)), (b16, .inl (g.2.1 1, 132, .inl Ld)), (b17, .inl (g.2.1 3, 132, .inl Lo)), (h0, .inr (12, [.int i0, .ref b1, .int (nI n0), .int (nI (rna n0 (ub f0) (rna n0 (ub f0) k0))), .int (rnf n0 (ub f0) (rna n0 (ub f0) k0) 0 (P v - 1) (nval n0 (ub f0) k0) (-1)), .int (rnv n0 (ub f0) (rna n0 (ub f0) k0) (nval n0 (ub f0) k0)), .ref b6, .ref b7, .ref b8, .ref b9, .ref b10, .ref b11, .ref b12, .ref b13, .ref b14, .ref b15, .ref b16, .ref b17, .int i18, .int i19, .int i20, .ref b21, .ref b22, .ref b23, .ref b24, .ref b25, .ref b26, .int i27, .ref b28, .ref b29, .ref b30, .ref b31, .ref b32, .ref b33, .ref b34, .ref b35, .ref b36, .int i37, .int i38, .int i39, .int i40, .int i41, .int i42, .int i43, .int i44, .int i45, .ref b46, .ref b47, .ref b48, .ref b49, .ref b50, .ref b51, .ref b52, .ref b53, .ref b54, .ref b55, .ref b56, .ref b57, .ref b58, .ref b59, .ref b60, .ref b61, .ref b62, .ref b63])), (b1, .inl (g.2.1 0, 400, .inl f0))] := hW
    refine lv_if_ne (tgt := 55) (pc := 50) hx hb dX12_readLine_50 rfl (fun c9 => ?_) (fun c9 => ?_)
    · have y2 := c9
      rw [(rn_y (v := (nval n0 (ub f0) k0)) (i := (-1)) y2).1, (rn_y (v := (nval n0 (ub f0) k0)) (i := (-1)) y2).2.1] at hW
      refine lv_aload_n (pc := 55) hx hb dX12_readLine_55 rfl (lv_at hl 3 rfl) ?_
      refine r_get X hW 8 ciX12 5 rfl (by decide) m_1236 rfl rfl dX12_readLine_56 ?_
      refine lv_istore (lv' := [(6, .int (nval n0 (ub f0) (rna n0 (ub f0) k0))), (5, .int (nval n0 (ub f0) k0)), (4, .int (P v - 1)), (3, .int (nI (12 * v + lc))), (0, .ref h0), (1, .int (nI v)), (2, .int o)]) (pc := 59) hx hb dX12_readLine_59 hl (by decide) rfl (fun ls hl => ?_)
      refine lv_aload_n (pc := 61) hx hb dX12_readLine_61 rfl (lv_at hl 4 rfl) ?_
      refine lv_iconst (v := 1) (pc := 62) hx hb dX12_readLine_62 (by decide) ?_
      refine lv_bipush (v := 24) (pc := 63) hx hb dX12_readLine_63 (by decide) ?_
      refine lv_iconst (v := (-1)) (pc := 65) hx hb dX12_readLine_65 (by decide) ?_
      refine c_Vi (pc := 66) (As := [.int 1, .int 24, .int (-1)]) (rest := []) (wr := [(b6, .inl (g.2.1 1, 11, .inl P)), (b7, .inl (g.2.1 1, 11, .inl Lc)), (b12, .inl (g.2.1 1, 132, .inl La)), (b13, .inl (g.2.1 1, 132, .inl Lb)), (b14, .inl (g.2.1 1, 132, .inl Lf)), (b15, .inl (g.2.1 1, 132, .inl Lt)), (b16, .inl (g.2.1 1, 132, .inl Ld)), (b17, .inl (g.2.1 3, 132, .inl Lo))]) X hW 8 ciX12 rfl (C_X12_numberG l g h0 b1 b6 b7 b8 b9 b10 b11 b12 b13 b14 b15 b16 b17 b21 b22 b23 b24 b25 b26 b28 b29 b30 b31 b32 b33 b34 b35 b36 b46 b47 b48 b49 b50 b51 b52 b53 b54 b55 b56 b57 b58 b59 b60 b61 b62 b63 i0 (-1) (nval n0 (ub f0) (rna n0 (ub f0) k0)) i18 i19 i20 i27 i37 i38 i39 i40 i41 i42 i43 i44 i45 f0 n0 hn0 (rna n0 (ub f0) (rna n0 (ub f0) k0)) 1 24 (-1) (by omega)) vX12_202 [8, 9] [0, 1, 2, 3, 4, 5, 6, 7] rfl rfl rfl rfl rfl rfl hl.1 rfl (Nat.le_of_ble_eq_true rfl) ⟨Nat.le_of_ble_eq_true rfl, Nat.le_of_ble_eq_true rfl⟩ ⟨Nat.le_of_ble_eq_true rfl, Nat.le_of_ble_eq_true rfl⟩ dX12_readLine_66 (fun r10 u9 H locs hq hW => ?_)
      obtain ⟨rfl, rfl⟩ := hq
      have hr66 := rna_le (f := ub f0) hn0 (show (rna n0 (ub f0) (rna n0 (ub f0) k0)) ≤ n0 by omega)
      have hW : WD g A s _ _ [(b6, .inl (g.2.1 1, 11, .inl P)), (b7, .inl (g.2.1 1, 11, .inl Lc)), (b12, .inl (g.2.1 1, 132, .inl La)), (b13, .inl (g.2.1 1, 132, .inl Lb)), (b14, .inl (g.2.1 1, 132, .inl Lf)), (b15, .inl (g.2.1 1, 132, .inl Lt)), (b16, .inl (g.2.1 1, 132, .inl Ld)), (b17, .inl (g.2.1 3, 132, .inl Lo)), (h0, .inr (12, [.int i0, .ref b1, .int (nI n0), .int (nI (rna n0 (ub f0) (rna n0 (ub f0) (rna n0 (ub f0) k0)))), .int (rnf n0 (ub f0) (rna n0 (ub f0) (rna n0 (ub f0) k0)) 1 24 (-1) (-1)), .int (rnv n0 (ub f0) (rna n0 (ub f0) (rna n0 (ub f0) k0)) (nval n0 (ub f0) (rna n0 (ub f0) k0))), .ref b6, .ref b7, .ref b8, .ref b9, .ref b10, .ref b11, .ref b12, .ref b13, .ref b14, .ref b15, .ref b16, .ref b17, .int i18, .int i19, .int i20, .ref b21, .ref b22, .ref b23, .ref b24, .ref b25, .ref b26, .int i27, .ref b28, .ref b29, .ref b30, .ref b31, .ref b32, .ref b33, .ref b34, .ref b35, .ref b36, .int i37, .int i38, .int i39, .int i40, .int i41, .int i42, .int i43, .int i44, .int i45, .ref b46, .ref b47, .ref b48, .ref b49, .ref b50, .ref b51, .ref b52, .ref b53, .ref b54, .ref b55, .ref b56, .ref b57, .ref b58, .ref b59, .ref b60, .ref b61, .ref b62, .ref b63])), (b1, .inl (g.2.1 0, 400, .inl f0))] := hW
      refine lv_if_ne (tgt := 74) (pc := 69) hx hb dX12_readLine_69 rfl (fun c11 => ?_) (fun c11 => ?_)
      · have y3 := c11
        rw [(rn_y (v := (nval n0 (ub f0) (rna n0 (ub f0) k0))) (i := (-1)) y3).1, (rn_y (v := (nval n0 (ub f0) (rna n0 (ub f0) k0))) (i := (-1)) y3).2.1] at hW
        refine lv_aload_n (pc := 74) hx hb dX12_readLine_74 rfl (lv_at hl 4 rfl) ?_
        refine r_get X hW 8 ciX12 5 rfl (by decide) m_1236 rfl rfl dX12_readLine_75 ?_
        refine lv_istore (lv' := [(7, .int (nval n0 (ub f0) (rna n0 (ub f0) (rna n0 (ub f0) k0)))), (6, .int (nval n0 (ub f0) (rna n0 (ub f0) k0))), (5, .int (nval n0 (ub f0) k0)), (4, .int (P v - 1)), (3, .int (nI (12 * v + lc))), (0, .ref h0), (1, .int (nI v)), (2, .int o)]) (pc := 78) hx hb dX12_readLine_78 hl (by decide) rfl (fun ls hl => ?_)
        refine lv_aload_n (pc := 80) hx hb dX12_readLine_80 rfl (lv_at hl 5 rfl) ?_
        refine lv_iload (pc := 81) hx hb dX12_readLine_81 (lv_at hl 0 rfl) ?_
        refine lv_bipush (v := 24) (pc := 83) hx hb dX12_readLine_83 (by decide) ?_
        refine lv_iconst (v := (-1)) (pc := 85) hx hb dX12_readLine_85 (by decide) ?_
        refine c_Vi (pc := 86) (As := [.int (nval n0 (ub f0) (rna n0 (ub f0) (rna n0 (ub f0) k0))), .int 24, .int (-1)]) (rest := []) (wr := [(b6, .inl (g.2.1 1, 11, .inl P)), (b7, .inl (g.2.1 1, 11, .inl Lc)), (b12, .inl (g.2.1 1, 132, .inl La)), (b13, .inl (g.2.1 1, 132, .inl Lb)), (b14, .inl (g.2.1 1, 132, .inl Lf)), (b15, .inl (g.2.1 1, 132, .inl Lt)), (b16, .inl (g.2.1 1, 132, .inl Ld)), (b17, .inl (g.2.1 3, 132, .inl Lo))]) X hW 8 ciX12 rfl (C_X12_numberG l g h0 b1 b6 b7 b8 b9 b10 b11 b12 b13 b14 b15 b16 b17 b21 b22 b23 b24 b25 b26 b28 b29 b30 b31 b32 b33 b34 b35 b36 b46 b47 b48 b49 b50 b51 b52 b53 b54 b55 b56 b57 b58 b59 b60 b61 b62 b63 i0 (-1) (nval n0 (ub f0) (rna n0 (ub f0) (rna n0 (ub f0) k0))) i18 i19 i20 i27 i37 i38 i39 i40 i41 i42 i43 i44 i45 f0 n0 hn0 (rna n0 (ub f0) (rna n0 (ub f0) (rna n0 (ub f0) k0))) (nval n0 (ub f0) (rna n0 (ub f0) (rna n0 (ub f0) k0))) 24 (-1) (by omega)) vX12_202 [8, 9] [0, 1, 2, 3, 4, 5, 6, 7] rfl rfl rfl rfl rfl rfl hl.1 rfl (Nat.le_of_ble_eq_true rfl) ⟨Nat.le_of_ble_eq_true rfl, Nat.le_of_ble_eq_true rfl⟩ ⟨Nat.le_of_ble_eq_true rfl, Nat.le_of_ble_eq_true rfl⟩ dX12_readLine_86 (fun r12 u9 H locs hq hW => ?_)
        obtain ⟨rfl, rfl⟩ := hq
        have hr86 := rna_le (f := ub f0) hn0 (show (rna n0 (ub f0) (rna n0 (ub f0) (rna n0 (ub f0) k0))) ≤ n0 by omega)
        have hW : WD g A s _ _ [(b6, .inl (g.2.1 1, 11, .inl P)), (b7, .inl (g.2.1 1, 11, .inl Lc)), (b12, .inl (g.2.1 1, 132, .inl La)), (b13, .inl (g.2.1 1, 132, .inl Lb)), (b14, .inl (g.2.1 1, 132, .inl Lf)), (b15, .inl (g.2.1 1, 132, .inl Lt)), (b16, .inl (g.2.1 1, 132, .inl Ld)), (b17, .inl (g.2.1 3, 132, .inl Lo)), (h0, .inr (12, [.int i0, .ref b1, .int (nI n0), .int (nI (rna n0 (ub f0) (rna n0 (ub f0) (rna n0 (ub f0) (rna n0 (ub f0) k0))))), .int (rnf n0 (ub f0) (rna n0 (ub f0) (rna n0 (ub f0) (rna n0 (ub f0) k0))) (nval n0 (ub f0) (rna n0 (ub f0) (rna n0 (ub f0) k0))) 24 (-1) (-1)), .int (rnv n0 (ub f0) (rna n0 (ub f0) (rna n0 (ub f0) (rna n0 (ub f0) k0))) (nval n0 (ub f0) (rna n0 (ub f0) (rna n0 (ub f0) k0)))), .ref b6, .ref b7, .ref b8, .ref b9, .ref b10, .ref b11, .ref b12, .ref b13, .ref b14, .ref b15, .ref b16, .ref b17, .int i18, .int i19, .int i20, .ref b21, .ref b22, .ref b23, .ref b24, .ref b25, .ref b26, .int i27, .ref b28, .ref b29, .ref b30, .ref b31, .ref b32, .ref b33, .ref b34, .ref b35, .ref b36, .int i37, .int i38, .int i39, .int i40, .int i41, .int i42, .int i43, .int i44, .int i45, .ref b46, .ref b47, .ref b48, .ref b49, .ref b50, .ref b51, .ref b52, .ref b53, .ref b54, .ref b55, .ref b56, .ref b57, .ref b58, .ref b59, .ref b60, .ref b61, .ref b62, .ref b63])), (b1, .inl (g.2.1 0, 400, .inl f0))] := hW
        refine lv_if_ne (tgt := 94) (pc := 89) hx hb dX12_readLine_89 rfl (fun c13 => ?_) (fun c13 => ?_)
        · have y4 := c13
          rw [(rn_y (v := (nval n0 (ub f0) (rna n0 (ub f0) (rna n0 (ub f0) k0)))) (i := (-1)) y4).1, (rn_y (v := (nval n0 (ub f0) (rna n0 (ub f0) (rna n0 (ub f0) k0)))) (i := (-1)) y4).2.1] at hW
          refine lv_aload_n (pc := 94) hx hb dX12_readLine_94 rfl (lv_at hl 5 rfl) ?_
          refine r_get X hW 8 ciX12 12 rfl (by decide) m_1243 rfl rfl dX12_readLine_95 ?_
          refine lv_iload_n (pc := 98) hx hb dX12_readLine_98 rfl (lv_at hl 4 rfl) ?_
          refine lv_iload (pc := 99) hx hb dX12_readLine_99 (lv_at hl 2 rfl) ?_
          obtain ⟨f14, ef14⟩ : ∃ fz : Nat → Int32, upd La (nI (12 * v + lc)).toNatClampNeg (nval n0 (ub f0) k0) = fz := ⟨_, rfl⟩
          refine r_iast (ws' := [(b6, .inl (g.2.1 1, 11, .inl P)), (b7, .inl (g.2.1 1, 11, .inl Lc)), (b12, .inl (g.2.1 1, 132, .inl f14)), (b13, .inl (g.2.1 1, 132, .inl Lb)), (b14, .inl (g.2.1 1, 132, .inl Lf)), (b15, .inl (g.2.1 1, 132, .inl Lt)), (b16, .inl (g.2.1 1, 132, .inl Ld)), (b17, .inl (g.2.1 3, 132, .inl Lo)), (h0, .inr (12, [.int i0, .ref b1, .int (nI n0), .int (nI (rna n0 (ub f0) (rna n0 (ub f0) (rna n0 (ub f0) (rna n0 (ub f0) k0))))), .int (-1), .int (nval n0 (ub f0) (rna n0 (ub f0) (rna n0 (ub f0) (rna n0 (ub f0) k0)))), .ref b6, .ref b7, .ref b8, .ref b9, .ref b10, .ref b11, .ref b12, .ref b13, .ref b14, .ref b15, .ref b16, .ref b17, .int i18, .int i19, .int i20, .ref b21, .ref b22, .ref b23, .ref b24, .ref b25, .ref b26, .int i27, .ref b28, .ref b29, .ref b30, .ref b31, .ref b32, .ref b33, .ref b34, .ref b35, .ref b36, .int i37, .int i38, .int i39, .int i40, .int i41, .int i42, .int i43, .int i44, .int i45, .ref b46, .ref b47, .ref b48, .ref b49, .ref b50, .ref b51, .ref b52, .ref b53, .ref b54, .ref b55, .ref b56, .ref b57, .ref b58, .ref b59, .ref b60, .ref b61, .ref b62, .ref b63])), (b1, .inl (g.2.1 0, 400, .inl f0))]) X hW 2 rfl (vp_in_nI (by omega) (by decide)) ef14 rfl dX12_readLine_101 (fun H locs hW => ?_)
          refine lv_aload_n (pc := 102) hx hb dX12_readLine_102 rfl (lv_at hl 5 rfl) ?_
          refine r_get X hW 8 ciX12 13 rfl (by decide) m_1244 rfl rfl dX12_readLine_103 ?_
          refine lv_iload_n (pc := 106) hx hb dX12_readLine_106 rfl (lv_at hl 4 rfl) ?_
          refine lv_iload (pc := 107) hx hb dX12_readLine_107 (lv_at hl 1 rfl) ?_
          obtain ⟨f15, ef15⟩ : ∃ fz : Nat → Int32, upd Lb (nI (12 * v + lc)).toNatClampNeg (nval n0 (ub f0) (rna n0 (ub f0) k0)) = fz := ⟨_, rfl⟩
          refine r_iast (ws' := [(b6, .inl (g.2.1 1, 11, .inl P)), (b7, .inl (g.2.1 1, 11, .inl Lc)), (b12, .inl (g.2.1 1, 132, .inl f14)), (b13, .inl (g.2.1 1, 132, .inl f15)), (b14, .inl (g.2.1 1, 132, .inl Lf)), (b15, .inl (g.2.1 1, 132, .inl Lt)), (b16, .inl (g.2.1 1, 132, .inl Ld)), (b17, .inl (g.2.1 3, 132, .inl Lo)), (h0, .inr (12, [.int i0, .ref b1, .int (nI n0), .int (nI (rna n0 (ub f0) (rna n0 (ub f0) (rna n0 (ub f0) (rna n0 (ub f0) k0))))), .int (-1), .int (nval n0 (ub f0) (rna n0 (ub f0) (rna n0 (ub f0) (rna n0 (ub f0) k0)))), .ref b6, .ref b7, .ref b8, .ref b9, .ref b10, .ref b11, .ref b12, .ref b13, .ref b14, .ref b15, .ref b16, .ref b17, .int i18, .int i19, .int i20, .ref b21, .ref b22, .ref b23, .ref b24, .ref b25, .ref b26, .int i27, .ref b28, .ref b29, .ref b30, .ref b31, .ref b32, .ref b33, .ref b34, .ref b35, .ref b36, .int i37, .int i38, .int i39, .int i40, .int i41, .int i42, .int i43, .int i44, .int i45, .ref b46, .ref b47, .ref b48, .ref b49, .ref b50, .ref b51, .ref b52, .ref b53, .ref b54, .ref b55, .ref b56, .ref b57, .ref b58, .ref b59, .ref b60, .ref b61, .ref b62, .ref b63])), (b1, .inl (g.2.1 0, 400, .inl f0))]) X hW 3 rfl (vp_in_nI (by omega) (by decide)) ef15 rfl dX12_readLine_109 (fun H locs hW => ?_)
          refine lv_aload_n (pc := 110) hx hb dX12_readLine_110 rfl (lv_at hl 5 rfl) ?_
          refine r_get X hW 8 ciX12 14 rfl (by decide) m_1245 rfl rfl dX12_readLine_111 ?_
          refine lv_iload_n (pc := 114) hx hb dX12_readLine_114 rfl (lv_at hl 4 rfl) ?_
          refine lv_iload (pc := 115) hx hb dX12_readLine_115 (lv_at hl 0 rfl) ?_
          obtain ⟨f16, ef16⟩ : ∃ fz : Nat → Int32, upd Lf (nI (12 * v + lc)).toNatClampNeg (nval n0 (ub f0) (rna n0 (ub f0) (rna n0 (ub f0) k0))) = fz := ⟨_, rfl⟩
          refine r_iast (ws' := [(b6, .inl (g.2.1 1, 11, .inl P)), (b7, .inl (g.2.1 1, 11, .inl Lc)), (b12, .inl (g.2.1 1, 132, .inl f14)), (b13, .inl (g.2.1 1, 132, .inl f15)), (b14, .inl (g.2.1 1, 132, .inl f16)), (b15, .inl (g.2.1 1, 132, .inl Lt)), (b16, .inl (g.2.1 1, 132, .inl Ld)), (b17, .inl (g.2.1 3, 132, .inl Lo)), (h0, .inr (12, [.int i0, .ref b1, .int (nI n0), .int (nI (rna n0 (ub f0) (rna n0 (ub f0) (rna n0 (ub f0) (rna n0 (ub f0) k0))))), .int (-1), .int (nval n0 (ub f0) (rna n0 (ub f0) (rna n0 (ub f0) (rna n0 (ub f0) k0)))), .ref b6, .ref b7, .ref b8, .ref b9, .ref b10, .ref b11, .ref b12, .ref b13, .ref b14, .ref b15, .ref b16, .ref b17, .int i18, .int i19, .int i20, .ref b21, .ref b22, .ref b23, .ref b24, .ref b25, .ref b26, .int i27, .ref b28, .ref b29, .ref b30, .ref b31, .ref b32, .ref b33, .ref b34, .ref b35, .ref b36, .int i37, .int i38, .int i39, .int i40, .int i41, .int i42, .int i43, .int i44, .int i45, .ref b46, .ref b47, .ref b48, .ref b49, .ref b50, .ref b51, .ref b52, .ref b53, .ref b54, .ref b55, .ref b56, .ref b57, .ref b58, .ref b59, .ref b60, .ref b61, .ref b62, .ref b63])), (b1, .inl (g.2.1 0, 400, .inl f0))]) X hW 4 rfl (vp_in_nI (by omega) (by decide)) ef16 rfl dX12_readLine_117 (fun H locs hW => ?_)
          refine lv_aload_n (pc := 118) hx hb dX12_readLine_118 rfl (lv_at hl 5 rfl) ?_
          refine r_get X hW 8 ciX12 15 rfl (by decide) m_1246 rfl rfl dX12_readLine_119 ?_
          refine lv_iload_n (pc := 122) hx hb dX12_readLine_122 rfl (lv_at hl 4 rfl) ?_
          refine lv_aload_n (pc := 123) hx hb dX12_readLine_123 rfl (lv_at hl 5 rfl) ?_
          refine r_get X hW 8 ciX12 5 rfl (by decide) m_1236 rfl rfl dX12_readLine_124 ?_
          obtain ⟨f17, ef17⟩ : ∃ fz : Nat → Int32, upd Lt (nI (12 * v + lc)).toNatClampNeg (nval n0 (ub f0) (rna n0 (ub f0) (rna n0 (ub f0) (rna n0 (ub f0) k0)))) = fz := ⟨_, rfl⟩
          refine r_iast (ws' := [(b6, .inl (g.2.1 1, 11, .inl P)), (b7, .inl (g.2.1 1, 11, .inl Lc)), (b12, .inl (g.2.1 1, 132, .inl f14)), (b13, .inl (g.2.1 1, 132, .inl f15)), (b14, .inl (g.2.1 1, 132, .inl f16)), (b15, .inl (g.2.1 1, 132, .inl f17)), (b16, .inl (g.2.1 1, 132, .inl Ld)), (b17, .inl (g.2.1 3, 132, .inl Lo)), (h0, .inr (12, [.int i0, .ref b1, .int (nI n0), .int (nI (rna n0 (ub f0) (rna n0 (ub f0) (rna n0 (ub f0) (rna n0 (ub f0) k0))))), .int (-1), .int (nval n0 (ub f0) (rna n0 (ub f0) (rna n0 (ub f0) (rna n0 (ub f0) k0)))), .ref b6, .ref b7, .ref b8, .ref b9, .ref b10, .ref b11, .ref b12, .ref b13, .ref b14, .ref b15, .ref b16, .ref b17, .int i18, .int i19, .int i20, .ref b21, .ref b22, .ref b23, .ref b24, .ref b25, .ref b26, .int i27, .ref b28, .ref b29, .ref b30, .ref b31, .ref b32, .ref b33, .ref b34, .ref b35, .ref b36, .int i37, .int i38, .int i39, .int i40, .int i41, .int i42, .int i43, .int i44, .int i45, .ref b46, .ref b47, .ref b48, .ref b49, .ref b50, .ref b51, .ref b52, .ref b53, .ref b54, .ref b55, .ref b56, .ref b57, .ref b58, .ref b59, .ref b60, .ref b61, .ref b62, .ref b63])), (b1, .inl (g.2.1 0, 400, .inl f0))]) X hW 5 rfl (vp_in_nI (by omega) (by decide)) ef17 rfl dX12_readLine_127 (fun H locs hW => ?_)
          refine lv_aload_n (pc := 128) hx hb dX12_readLine_128 rfl (lv_at hl 5 rfl) ?_
          refine r_get X hW 8 ciX12 17 rfl (by decide) m_1248 rfl rfl dX12_readLine_129 ?_
          refine lv_iload_n (pc := 132) hx hb dX12_readLine_132 rfl (lv_at hl 4 rfl) ?_
          refine lv_iload_n (pc := 133) hx hb dX12_readLine_133 rfl (lv_at hl 7 rfl) ?_
          obtain ⟨f18, ef18⟩ : ∃ fz : Nat → Int32, upd Lo (nI (12 * v + lc)).toNatClampNeg (vp_nar .boolean o) = fz := ⟨_, rfl⟩
          refine r_zast (ws' := [(b6, .inl (g.2.1 1, 11, .inl P)), (b7, .inl (g.2.1 1, 11, .inl Lc)), (b12, .inl (g.2.1 1, 132, .inl f14)), (b13, .inl (g.2.1 1, 132, .inl f15)), (b14, .inl (g.2.1 1, 132, .inl f16)), (b15, .inl (g.2.1 1, 132, .inl f17)), (b16, .inl (g.2.1 1, 132, .inl Ld)), (b17, .inl (g.2.1 3, 132, .inl f18)), (h0, .inr (12, [.int i0, .ref b1, .int (nI n0), .int (nI (rna n0 (ub f0) (rna n0 (ub f0) (rna n0 (ub f0) (rna n0 (ub f0) k0))))), .int (-1), .int (nval n0 (ub f0) (rna n0 (ub f0) (rna n0 (ub f0) (rna n0 (ub f0) k0)))), .ref b6, .ref b7, .ref b8, .ref b9, .ref b10, .ref b11, .ref b12, .ref b13, .ref b14, .ref b15, .ref b16, .ref b17, .int i18, .int i19, .int i20, .ref b21, .ref b22, .ref b23, .ref b24, .ref b25, .ref b26, .int i27, .ref b28, .ref b29, .ref b30, .ref b31, .ref b32, .ref b33, .ref b34, .ref b35, .ref b36, .int i37, .int i38, .int i39, .int i40, .int i41, .int i42, .int i43, .int i44, .int i45, .ref b46, .ref b47, .ref b48, .ref b49, .ref b50, .ref b51, .ref b52, .ref b53, .ref b54, .ref b55, .ref b56, .ref b57, .ref b58, .ref b59, .ref b60, .ref b61, .ref b62, .ref b63])), (b1, .inl (g.2.1 0, 400, .inl f0))]) X hW 7 rfl (vp_in_nI (by omega) (by decide)) ef18 rfl dX12_readLine_134 (fun H locs hW => ?_)
          refine lv_aload_n (pc := 135) hx hb dX12_readLine_135 rfl (lv_at hl 5 rfl) ?_
          refine r_get X hW 8 ciX12 16 rfl (by decide) m_1247 rfl rfl dX12_readLine_136 ?_
          refine lv_iload_n (pc := 139) hx hb dX12_readLine_139 rfl (lv_at hl 4 rfl) ?_
          refine lv_iconst (v := (-1)) (pc := 140) hx hb dX12_readLine_140 (by decide) ?_
          obtain ⟨f19, ef19⟩ : ∃ fz : Nat → Int32, upd Ld (nI (12 * v + lc)).toNatClampNeg (-1) = fz := ⟨_, rfl⟩
          refine r_iast (ws' := [(b6, .inl (g.2.1 1, 11, .inl P)), (b7, .inl (g.2.1 1, 11, .inl Lc)), (b12, .inl (g.2.1 1, 132, .inl f14)), (b13, .inl (g.2.1 1, 132, .inl f15)), (b14, .inl (g.2.1 1, 132, .inl f16)), (b15, .inl (g.2.1 1, 132, .inl f17)), (b16, .inl (g.2.1 1, 132, .inl f19)), (b17, .inl (g.2.1 3, 132, .inl f18)), (h0, .inr (12, [.int i0, .ref b1, .int (nI n0), .int (nI (rna n0 (ub f0) (rna n0 (ub f0) (rna n0 (ub f0) (rna n0 (ub f0) k0))))), .int (-1), .int (nval n0 (ub f0) (rna n0 (ub f0) (rna n0 (ub f0) (rna n0 (ub f0) k0)))), .ref b6, .ref b7, .ref b8, .ref b9, .ref b10, .ref b11, .ref b12, .ref b13, .ref b14, .ref b15, .ref b16, .ref b17, .int i18, .int i19, .int i20, .ref b21, .ref b22, .ref b23, .ref b24, .ref b25, .ref b26, .int i27, .ref b28, .ref b29, .ref b30, .ref b31, .ref b32, .ref b33, .ref b34, .ref b35, .ref b36, .int i37, .int i38, .int i39, .int i40, .int i41, .int i42, .int i43, .int i44, .int i45, .ref b46, .ref b47, .ref b48, .ref b49, .ref b50, .ref b51, .ref b52, .ref b53, .ref b54, .ref b55, .ref b56, .ref b57, .ref b58, .ref b59, .ref b60, .ref b61, .ref b62, .ref b63])), (b1, .inl (g.2.1 0, 400, .inl f0))]) X hW 6 rfl (vp_in_nI (by omega) (by decide)) ef19 rfl dX12_readLine_141 (fun H locs hW => ?_)
          refine lv_aload_n (pc := 142) hx hb dX12_readLine_142 rfl (lv_at hl 5 rfl) ?_
          refine r_get X hW 8 ciX12 7 rfl (by decide) m_1238 rfl rfl dX12_readLine_143 ?_
          refine lv_iload_n (pc := 146) hx hb dX12_readLine_146 rfl (lv_at hl 6 rfl) ?_
          refine lv_dup2_11 (pc := 147) hx hb dX12_readLine_147 rfl rfl ?_
          refine r_iald X hW 1 rfl (vp_in_nI (by omega) (by decide)) dX12_readLine_148 ?_
          refine lv_topi (fun v20 ev20 => ?_)
          obtain rfl : v20 = nI lc := ev20.trans (by rw [nI_clamp (by omega)]; exact hLc)
          refine lv_iconst (v := 1) (pc := 149) hx hb dX12_readLine_149 (by decide) ?_
          refine lv_iadd (pc := 150) hx hb dX12_readLine_150 ?_
          refine lv_topi (fun v21 ev21 => ?_)
          obtain rfl : v21 = nI (lc + 1) := ev21.trans (nI_1 _)
          obtain ⟨f22, ef22⟩ : ∃ fz : Nat → Int32, upd Lc (nI v).toNatClampNeg (nI (lc + 1)) = fz := ⟨_, rfl⟩
          refine r_iast (ws' := [(b6, .inl (g.2.1 1, 11, .inl P)), (b7, .inl (g.2.1 1, 11, .inl f22)), (b12, .inl (g.2.1 1, 132, .inl f14)), (b13, .inl (g.2.1 1, 132, .inl f15)), (b14, .inl (g.2.1 1, 132, .inl f16)), (b15, .inl (g.2.1 1, 132, .inl f17)), (b16, .inl (g.2.1 1, 132, .inl f19)), (b17, .inl (g.2.1 3, 132, .inl f18)), (h0, .inr (12, [.int i0, .ref b1, .int (nI n0), .int (nI (rna n0 (ub f0) (rna n0 (ub f0) (rna n0 (ub f0) (rna n0 (ub f0) k0))))), .int (-1), .int (nval n0 (ub f0) (rna n0 (ub f0) (rna n0 (ub f0) (rna n0 (ub f0) k0)))), .ref b6, .ref b7, .ref b8, .ref b9, .ref b10, .ref b11, .ref b12, .ref b13, .ref b14, .ref b15, .ref b16, .ref b17, .int i18, .int i19, .int i20, .ref b21, .ref b22, .ref b23, .ref b24, .ref b25, .ref b26, .int i27, .ref b28, .ref b29, .ref b30, .ref b31, .ref b32, .ref b33, .ref b34, .ref b35, .ref b36, .int i37, .int i38, .int i39, .int i40, .int i41, .int i42, .int i43, .int i44, .int i45, .ref b46, .ref b47, .ref b48, .ref b49, .ref b50, .ref b51, .ref b52, .ref b53, .ref b54, .ref b55, .ref b56, .ref b57, .ref b58, .ref b59, .ref b60, .ref b61, .ref b62, .ref b63])), (b1, .inl (g.2.1 0, 400, .inl f0))]) X hW 1 rfl (vp_in_nI (by omega) (by decide)) ef22 rfl dX12_readLine_151 (fun H locs hW => ?_)
          refine lv_iconst (v := 1) (pc := 152) hx hb dX12_readLine_152 (by decide) ?_
          exact e_z X hQ hr hW (u := [(h0, .inr (12, [.int i0, .ref b1, .int (nI n0), .int (nI (rna n0 (ub f0) (rna n0 (ub f0) (rna n0 (ub f0) (rna n0 (ub f0) k0))))), .int (-1), .int (nval n0 (ub f0) (rna n0 (ub f0) (rna n0 (ub f0) (rna n0 (ub f0) k0)))), .ref b6, .ref b7, .ref b8, .ref b9, .ref b10, .ref b11, .ref b12, .ref b13, .ref b14, .ref b15, .ref b16, .ref b17, .int i18, .int i19, .int i20, .ref b21, .ref b22, .ref b23, .ref b24, .ref b25, .ref b26, .int i27, .ref b28, .ref b29, .ref b30, .ref b31, .ref b32, .ref b33, .ref b34, .ref b35, .ref b36, .int i37, .int i38, .int i39, .int i40, .int i41, .int i42, .int i43, .int i44, .int i45, .ref b46, .ref b47, .ref b48, .ref b49, .ref b50, .ref b51, .ref b52, .ref b53, .ref b54, .ref b55, .ref b56, .ref b57, .ref b58, .ref b59, .ref b60, .ref b61, .ref b62, .ref b63])), (b1, .inl (g.2.1 0, 400, .inl f0)), (b6, .inl (g.2.1 1, 11, .inl P)), (b7, .inl (g.2.1 1, 11, .inl f22)), (b12, .inl (g.2.1 1, 132, .inl f14)), (b13, .inl (g.2.1 1, 132, .inl f15)), (b14, .inl (g.2.1 1, 132, .inl f16)), (b15, .inl (g.2.1 1, 132, .inl f17)), (b16, .inl (g.2.1 1, 132, .inl f19)), (b17, .inl (g.2.1 3, 132, .inl f18))]) rfl [8, 9, 0, 1, 2, 3, 4, 5, 6, 7] rfl rfl (⟨(mJ_5 (N := i5) y1 y2 y3 y4).2.2.2.2.symm, by rw [(mJ_5 (N := i5) y1 y2 y3 y4).2.1, (mJ_5 (N := i5) y1 y2 y3 y4).2.2.1, (mJ_5 (N := i5) y1 y2 y3 y4).2.2.2.1, (mJ_5 (N := i5) y1 y2 y3 y4).1]; simp only [g5_5]; rw [← ef14, ← ef15, ← ef16, ← ef17, ← ef18, ← ef19, ← ef22, nI_clamp (by omega), nI_clamp (by omega)]⟩) ⟨Nat.le_of_ble_eq_true rfl, Nat.le_of_ble_eq_true rfl⟩ dX12_readLine_153
        · refine lv_iconst (v := 0) (pc := 92) hx hb dX12_readLine_92 (by decide) ?_
          exact e_z X hQ hr hW (u := [(h0, .inr (12, [.int i0, .ref b1, .int (nI n0), .int (nI (rna n0 (ub f0) (rna n0 (ub f0) (rna n0 (ub f0) (rna n0 (ub f0) k0))))), .int (rnf n0 (ub f0) (rna n0 (ub f0) (rna n0 (ub f0) (rna n0 (ub f0) k0))) (nval n0 (ub f0) (rna n0 (ub f0) (rna n0 (ub f0) k0))) 24 (-1) (-1)), .int (rnv n0 (ub f0) (rna n0 (ub f0) (rna n0 (ub f0) (rna n0 (ub f0) k0))) (nval n0 (ub f0) (rna n0 (ub f0) (rna n0 (ub f0) k0)))), .ref b6, .ref b7, .ref b8, .ref b9, .ref b10, .ref b11, .ref b12, .ref b13, .ref b14, .ref b15, .ref b16, .ref b17, .int i18, .int i19, .int i20, .ref b21, .ref b22, .ref b23, .ref b24, .ref b25, .ref b26, .int i27, .ref b28, .ref b29, .ref b30, .ref b31, .ref b32, .ref b33, .ref b34, .ref b35, .ref b36, .int i37, .int i38, .int i39, .int i40, .int i41, .int i42, .int i43, .int i44, .int i45, .ref b46, .ref b47, .ref b48, .ref b49, .ref b50, .ref b51, .ref b52, .ref b53, .ref b54, .ref b55, .ref b56, .ref b57, .ref b58, .ref b59, .ref b60, .ref b61, .ref b62, .ref b63])), (b1, .inl (g.2.1 0, 400, .inl f0)), (b6, .inl (g.2.1 1, 11, .inl P)), (b7, .inl (g.2.1 1, 11, .inl Lc)), (b12, .inl (g.2.1 1, 132, .inl La)), (b13, .inl (g.2.1 1, 132, .inl Lb)), (b14, .inl (g.2.1 1, 132, .inl Lf)), (b15, .inl (g.2.1 1, 132, .inl Lt)), (b16, .inl (g.2.1 1, 132, .inl Ld)), (b17, .inl (g.2.1 3, 132, .inl Lo))]) rfl [8, 9, 0, 1, 2, 3, 4, 5, 6, 7] rfl rfl (⟨(mOk_n (by rw [(mJ_4 (N := i5) y1 y2 y3 c13).1]; decide)).symm, by rw [(mJ_4 (N := i5) y1 y2 y3 c13).2.1, (mJ_4 (N := i5) y1 y2 y3 c13).2.2.1, (mJ_4 (N := i5) y1 y2 y3 c13).2.2.2, (mJ_4 (N := i5) y1 y2 y3 c13).1]; simp only [g5_4]⟩) ⟨Nat.le_of_ble_eq_true rfl, Nat.le_of_ble_eq_true rfl⟩ dX12_readLine_93
      · refine lv_iconst (v := 0) (pc := 72) hx hb dX12_readLine_72 (by decide) ?_
        exact e_z X hQ hr hW (u := [(h0, .inr (12, [.int i0, .ref b1, .int (nI n0), .int (nI (rna n0 (ub f0) (rna n0 (ub f0) (rna n0 (ub f0) k0)))), .int (rnf n0 (ub f0) (rna n0 (ub f0) (rna n0 (ub f0) k0)) 1 24 (-1) (-1)), .int (rnv n0 (ub f0) (rna n0 (ub f0) (rna n0 (ub f0) k0)) (nval n0 (ub f0) (rna n0 (ub f0) k0))), .ref b6, .ref b7, .ref b8, .ref b9, .ref b10, .ref b11, .ref b12, .ref b13, .ref b14, .ref b15, .ref b16, .ref b17, .int i18, .int i19, .int i20, .ref b21, .ref b22, .ref b23, .ref b24, .ref b25, .ref b26, .int i27, .ref b28, .ref b29, .ref b30, .ref b31, .ref b32, .ref b33, .ref b34, .ref b35, .ref b36, .int i37, .int i38, .int i39, .int i40, .int i41, .int i42, .int i43, .int i44, .int i45, .ref b46, .ref b47, .ref b48, .ref b49, .ref b50, .ref b51, .ref b52, .ref b53, .ref b54, .ref b55, .ref b56, .ref b57, .ref b58, .ref b59, .ref b60, .ref b61, .ref b62, .ref b63])), (b1, .inl (g.2.1 0, 400, .inl f0)), (b6, .inl (g.2.1 1, 11, .inl P)), (b7, .inl (g.2.1 1, 11, .inl Lc)), (b12, .inl (g.2.1 1, 132, .inl La)), (b13, .inl (g.2.1 1, 132, .inl Lb)), (b14, .inl (g.2.1 1, 132, .inl Lf)), (b15, .inl (g.2.1 1, 132, .inl Lt)), (b16, .inl (g.2.1 1, 132, .inl Ld)), (b17, .inl (g.2.1 3, 132, .inl Lo))]) rfl [8, 9, 0, 1, 2, 3, 4, 5, 6, 7] rfl rfl (⟨(mOk_n (by rw [(mJ_3 (N := i5) y1 y2 c11).1]; decide)).symm, by rw [(mJ_3 (N := i5) y1 y2 c11).2.1, (mJ_3 (N := i5) y1 y2 c11).2.2.1, (mJ_3 (N := i5) y1 y2 c11).2.2.2, (mJ_3 (N := i5) y1 y2 c11).1]; simp only [g5_3]⟩) ⟨Nat.le_of_ble_eq_true rfl, Nat.le_of_ble_eq_true rfl⟩ dX12_readLine_73
    · refine lv_iconst (v := 0) (pc := 53) hx hb dX12_readLine_53 (by decide) ?_
      exact e_z X hQ hr hW (u := [(h0, .inr (12, [.int i0, .ref b1, .int (nI n0), .int (nI (rna n0 (ub f0) (rna n0 (ub f0) k0))), .int (rnf n0 (ub f0) (rna n0 (ub f0) k0) 0 (P v - 1) (nval n0 (ub f0) k0) (-1)), .int (rnv n0 (ub f0) (rna n0 (ub f0) k0) (nval n0 (ub f0) k0)), .ref b6, .ref b7, .ref b8, .ref b9, .ref b10, .ref b11, .ref b12, .ref b13, .ref b14, .ref b15, .ref b16, .ref b17, .int i18, .int i19, .int i20, .ref b21, .ref b22, .ref b23, .ref b24, .ref b25, .ref b26, .int i27, .ref b28, .ref b29, .ref b30, .ref b31, .ref b32, .ref b33, .ref b34, .ref b35, .ref b36, .int i37, .int i38, .int i39, .int i40, .int i41, .int i42, .int i43, .int i44, .int i45, .ref b46, .ref b47, .ref b48, .ref b49, .ref b50, .ref b51, .ref b52, .ref b53, .ref b54, .ref b55, .ref b56, .ref b57, .ref b58, .ref b59, .ref b60, .ref b61, .ref b62, .ref b63])), (b1, .inl (g.2.1 0, 400, .inl f0)), (b6, .inl (g.2.1 1, 11, .inl P)), (b7, .inl (g.2.1 1, 11, .inl Lc)), (b12, .inl (g.2.1 1, 132, .inl La)), (b13, .inl (g.2.1 1, 132, .inl Lb)), (b14, .inl (g.2.1 1, 132, .inl Lf)), (b15, .inl (g.2.1 1, 132, .inl Lt)), (b16, .inl (g.2.1 1, 132, .inl Ld)), (b17, .inl (g.2.1 3, 132, .inl Lo))]) rfl [8, 9, 0, 1, 2, 3, 4, 5, 6, 7] rfl rfl (⟨(mOk_n (by rw [(mJ_2 (N := i5) y1 c9).1]; decide)).symm, by rw [(mJ_2 (N := i5) y1 c9).2.1, (mJ_2 (N := i5) y1 c9).2.2.1, (mJ_2 (N := i5) y1 c9).2.2.2, (mJ_2 (N := i5) y1 c9).1]; simp only [g5_2]⟩) ⟨Nat.le_of_ble_eq_true rfl, Nat.le_of_ble_eq_true rfl⟩ dX12_readLine_54
  · refine lv_iconst (v := 0) (pc := 33) hx hb dX12_readLine_33 (by decide) ?_
    exact e_z X hQ hr hW (u := [(h0, .inr (12, [.int i0, .ref b1, .int (nI n0), .int (nI (rna n0 (ub f0) k0)), .int (rnf n0 (ub f0) k0 0 (P v - 1) (-1) (-1)), .int (rnv n0 (ub f0) k0 i5), .ref b6, .ref b7, .ref b8, .ref b9, .ref b10, .ref b11, .ref b12, .ref b13, .ref b14, .ref b15, .ref b16, .ref b17, .int i18, .int i19, .int i20, .ref b21, .ref b22, .ref b23, .ref b24, .ref b25, .ref b26, .int i27, .ref b28, .ref b29, .ref b30, .ref b31, .ref b32, .ref b33, .ref b34, .ref b35, .ref b36, .int i37, .int i38, .int i39, .int i40, .int i41, .int i42, .int i43, .int i44, .int i45, .ref b46, .ref b47, .ref b48, .ref b49, .ref b50, .ref b51, .ref b52, .ref b53, .ref b54, .ref b55, .ref b56, .ref b57, .ref b58, .ref b59, .ref b60, .ref b61, .ref b62, .ref b63])), (b1, .inl (g.2.1 0, 400, .inl f0)), (b6, .inl (g.2.1 1, 11, .inl P)), (b7, .inl (g.2.1 1, 11, .inl Lc)), (b12, .inl (g.2.1 1, 132, .inl La)), (b13, .inl (g.2.1 1, 132, .inl Lb)), (b14, .inl (g.2.1 1, 132, .inl Lf)), (b15, .inl (g.2.1 1, 132, .inl Lt)), (b16, .inl (g.2.1 1, 132, .inl Ld)), (b17, .inl (g.2.1 3, 132, .inl Lo))]) rfl [8, 9, 0, 1, 2, 3, 4, 5, 6, 7] rfl rfl (⟨(mOk_n (by rw [(mJ_1 (N := i5)  c7).1]; decide)).symm, by rw [(mJ_1 (N := i5)  c7).2.1, (mJ_1 (N := i5)  c7).2.2.1, (mJ_1 (N := i5)  c7).2.2.2, (mJ_1 (N := i5)  c7).1]; simp only [g5_1]⟩) ⟨Nat.le_of_ble_eq_true rfl, Nat.le_of_ble_eq_true rfl⟩ dX12_readLine_34

set_option maxHeartbeats 40000000 in
set_option maxRecDepth 100000 in
theorem C_X12_readBitG (l : Launch) (g : GG) (h0 b1 b6 b7 b8 b9 b10 b11 b12 b13 b14 b15 b16 b17 b21 b22 b23 b24 b25 b26 b28 b29 b30 b31 b32 b33 b34 b35 b36 b46 b47 b48 b49 b50 b51 b52 b53 b54 b55 b56 b57 b58 b59 b60 b61 b62 b63 : Nat) (i0 i18 i19 i20 i27 i37 i38 i39 i40 i41 i42 i43 i44 i45 : Int32) (f0 : Nat → Int32) (n0 : Nat) (hn0 : n0 ≤ 400) (i5 : Int32) (P g1 : Nat → Int32) (v rw N : Nat) (h : Int32) (hv : v ≤ 10) (hN0 : v < N) (hN : ¬ h = 0 → 4 * v + 3 < N) (hNN : N < 2 ^ 31) (k0 : Nat) (hk0 : k0 ≤ n0) : MetI l g yX12_readBit cX12_readBit 6 (some .boolean) 3 0 0 [.ref h0, .int (nI v), .ref rw, .int h] [(h0, .inr (12, [.int i0, .ref b1, .int (nI n0), .int (nI k0), .int (-1), .int i5, .ref b6, .ref b7, .ref b8, .ref b9, .ref b10, .ref b11, .ref b12, .ref b13, .ref b14, .ref b15, .ref b16, .ref b17, .int i18, .int i19, .int i20, .ref b21, .ref b22, .ref b23, .ref b24, .ref b25, .ref b26, .int i27, .ref b28, .ref b29, .ref b30, .ref b31, .ref b32, .ref b33, .ref b34, .ref b35, .ref b36, .int i37, .int i38, .int i39, .int i40, .int i41, .int i42, .int i43, .int i44, .int i45, .ref b46, .ref b47, .ref b48, .ref b49, .ref b50, .ref b51, .ref b52, .ref b53, .ref b54, .ref b55, .ref b56, .ref b57, .ref b58, .ref b59, .ref b60, .ref b61, .ref b62, .ref b63])), (b1, .inl (g.2.1 0, 400, .inl f0)), (b6, .inl (g.2.1 1, 11, .inl P)), (rw, .inl (g.2.1 1, N, .inl g1))] (fun r u => r = bOk n0 (ub f0) k0 (P v - 1) h ∧ u = [(h0, .inr (12, [.int i0, .ref b1, .int (nI n0), .int (nI (bK n0 (ub f0) k0 (P v - 1) h)), .int (bF n0 (ub f0) k0 (P v - 1) h), .int (bN n0 (ub f0) k0 (P v - 1) h i5), .ref b6, .ref b7, .ref b8, .ref b9, .ref b10, .ref b11, .ref b12, .ref b13, .ref b14, .ref b15, .ref b16, .ref b17, .int i18, .int i19, .int i20, .ref b21, .ref b22, .ref b23, .ref b24, .ref b25, .ref b26, .int i27, .ref b28, .ref b29, .ref b30, .ref b31, .ref b32, .ref b33, .ref b34, .ref b35, .ref b36, .int i37, .int i38, .int i39, .int i40, .int i41, .int i42, .int i43, .int i44, .int i45, .ref b46, .ref b47, .ref b48, .ref b49, .ref b50, .ref b51, .ref b52, .ref b53, .ref b54, .ref b55, .ref b56, .ref b57, .ref b58, .ref b59, .ref b60, .ref b61, .ref b62, .ref b63])), (b1, .inl (g.2.1 0, 400, .inl f0)), (b6, .inl (g.2.1 1, 11, .inl P)), (rw, .inl (g.2.1 1, N, .inl (bG n0 (ub f0) k0 v (P v - 1) h g1)))]) := by
  refine MetI.of (own := RX12) rfl (by decide) (Nat.le_of_ble_eq_true rfl) ?_
  intro p e s m below meth c A ls args Q hQ X hr hin hW hl
  have hx := X.1
  have hb := X.2.1
  have hl : lv_has ls 6 [(0, .ref h0), (1, .int (nI v)), (2, .ref rw), (3, .int h)] := hl
  refine lv_aload_n (pc := 0) hx hb dX12_readBit_0 rfl (lv_at hl 0 rfl) ?_
  refine lv_iconst (v := 0) (pc := 1) hx hb dX12_readBit_1 (by decide) ?_
  refine lv_aload_n (pc := 2) hx hb dX12_readBit_2 rfl (lv_at hl 0 rfl) ?_
  refine r_get X hW 0 ciX12 6 rfl (by decide) m_1237 rfl rfl dX12_readBit_3 ?_
  refine lv_iload_n (pc := 6) hx hb dX12_readBit_6 rfl (lv_at hl 1 rfl) ?_
  refine r_iald X hW 2 rfl (vp_in_nI (by omega) (by decide)) dX12_readBit_7 ?_
  refine lv_topi (fun v1 ev1 => ?_)
  obtain rfl : v1 = P v := ev1.trans (by rw [nI_clamp (by omega)])
  refine lv_iconst (v := 1) (pc := 8) hx hb dX12_readBit_8 (by decide) ?_
  refine lv_isub (pc := 9) hx hb dX12_readBit_9 ?_
  refine lv_topi (fun v2 ev2 => ?_)
  obtain rfl : v2 = P v - 1 := ev2.trans (rfl)
  refine lv_iconst (v := (-1)) (pc := 10) hx hb dX12_readBit_10 (by decide) ?_
  refine c_Vi (pc := 11) (As := [.int 0, .int (P v - 1), .int (-1)]) (rest := []) (wr := [(b6, .inl (g.2.1 1, 11, .inl P)), (rw, .inl (g.2.1 1, N, .inl g1))]) X hW 0 ciX12 rfl (C_X12_numberG l g h0 b1 b6 b7 b8 b9 b10 b11 b12 b13 b14 b15 b16 b17 b21 b22 b23 b24 b25 b26 b28 b29 b30 b31 b32 b33 b34 b35 b36 b46 b47 b48 b49 b50 b51 b52 b53 b54 b55 b56 b57 b58 b59 b60 b61 b62 b63 i0 (-1) i5 i18 i19 i20 i27 i37 i38 i39 i40 i41 i42 i43 i44 i45 f0 n0 hn0 k0 0 (P v - 1) (-1) (by omega)) vX12_202 [0, 1] [2, 3] rfl rfl rfl rfl rfl rfl hl.1 rfl (Nat.le_of_ble_eq_true rfl) ⟨Nat.le_of_ble_eq_true rfl, Nat.le_of_ble_eq_true rfl⟩ ⟨Nat.le_of_ble_eq_true rfl, Nat.le_of_ble_eq_true rfl⟩ dX12_readBit_11 (fun r3 u9 H locs hq hW => ?_)
  obtain ⟨rfl, rfl⟩ := hq
  have hr11 := rna_le (f := ub f0) hn0 (show k0 ≤ n0 by omega)
  have hW : WD g A s _ _ [(b6, .inl (g.2.1 1, 11, .inl P)), (rw, .inl (g.2.1 1, N, .inl g1)), (h0, .inr (12, [.int i0, .ref b1, .int (nI n0), .int (nI (rna n0 (ub f0) k0)), .int (rnf n0 (ub f0) k0 0 (P v - 1) (-1) (-1)), .int (rnv n0 (ub f0) k0 i5), .ref b6, .ref b7, .ref b8, .ref b9, .ref b10, .ref b11, .ref b12, .ref b13, .ref b14, .ref b15, .ref b16, .ref b17, .int i18, .int i19, .int i20, .ref b21, .ref b22, .ref b23, .ref b24, .ref b25, .ref b26, .int i27, .ref b28, .ref b29, .ref b30, .ref b31, .ref b32, .ref b33, .ref b34, .ref b35, .ref b36, .int i37, .int i38, .int i39, .int i40, .int i41, .int i42, .int i43, .int i44, .int i45, .ref b46, .ref b47, .ref b48, .ref b49, .ref b50, .ref b51, .ref b52, .ref b53, .ref b54, .ref b55, .ref b56, .ref b57, .ref b58, .ref b59, .ref b60, .ref b61, .ref b62, .ref b63])), (b1, .inl (g.2.1 0, 400, .inl f0))] := hW
  refine lv_if_ne (tgt := 19) (pc := 14) hx hb dX12_readBit_14 rfl (fun c4 => ?_) (fun c4 => ?_)
  · have y1 := c4
    rw [(rn_y (v := i5) (i := (-1)) y1).1, (rn_y (v := i5) (i := (-1)) y1).2.1] at hW
    refine lv_aload_n (pc := 19) hx hb dX12_readBit_19 rfl (lv_at hl 0 rfl) ?_
    refine r_get X hW 2 ciX12 5 rfl (by decide) m_1236 rfl rfl dX12_readBit_20 ?_
    refine lv_istore (lv' := [(4, .int (nval n0 (ub f0) k0)), (0, .ref h0), (1, .int (nI v)), (2, .ref rw), (3, .int h)]) (pc := 23) hx hb dX12_readBit_23 hl (by decide) rfl (fun ls hl => ?_)
    by_cases hz : h = 0
    · have hin9 : vp_in (nI v) N := vp_in_nI (by omega) hNN
      refine lv_iload_n (pc := 25) hx hb dX12_readBit_25 rfl (lv_at hl 4 rfl) ?_
      refine lv_if_eq (tgt := 41) (pc := 26) hx hb dX12_readBit_26 rfl (fun c5 => ?_) (fun c5 => absurd hz c5)
      refine lv_iload_n (pc := 41) hx hb dX12_readBit_41 rfl (lv_at hl 4 rfl) ?_
      refine lv_if_eq (tgt := 56) (pc := 42) hx hb dX12_readBit_42 rfl (fun c6 => ?_) (fun c6 => absurd hz c6)
      refine lv_iload_n (pc := 56) hx hb dX12_readBit_56 rfl (lv_at hl 2 rfl) ?_
      refine lv_istore (lv' := [(5, .int (nI v)), (4, .int (nval n0 (ub f0) k0)), (0, .ref h0), (1, .int (nI v)), (2, .ref rw), (3, .int h)]) (pc := 57) hx hb dX12_readBit_57 hl (by decide) rfl (fun ls hl => ?_)
      refine lv_aload_n (pc := 59) hx hb dX12_readBit_59 rfl (lv_at hl 4 rfl) ?_
      refine lv_iload (pc := 60) hx hb dX12_readBit_60 (lv_at hl 0 rfl) ?_
      refine lv_dup2_11 (pc := 62) hx hb dX12_readBit_62 rfl rfl ?_
      refine r_iald X hW 1 rfl (hin9) dX12_readBit_63 ?_
      refine lv_iconst (v := 1) (pc := 64) hx hb dX12_readBit_64 (by decide) ?_
      refine lv_iload (pc := 65) hx hb dX12_readBit_65 (lv_at hl 1 rfl) ?_
      refine lv_ishl (pc := 67) hx hb dX12_readBit_67 ?_
      refine lv_ior (pc := 68) hx hb dX12_readBit_68 ?_
      obtain ⟨f7, ef7⟩ : ∃ fz : Nat → Int32, upd g1 (nI v).toNatClampNeg ((g1 (nI v).toNatClampNeg) ||| (1 <<< ((nval n0 (ub f0) k0) &&& 31))) = fz := ⟨_, rfl⟩
      refine r_iast (ws' := [(b6, .inl (g.2.1 1, 11, .inl P)), (rw, .inl (g.2.1 1, N, .inl f7)), (h0, .inr (12, [.int i0, .ref b1, .int (nI n0), .int (nI (rna n0 (ub f0) k0)), .int (-1), .int (nval n0 (ub f0) k0), .ref b6, .ref b7, .ref b8, .ref b9, .ref b10, .ref b11, .ref b12, .ref b13, .ref b14, .ref b15, .ref b16, .ref b17, .int i18, .int i19, .int i20, .ref b21, .ref b22, .ref b23, .ref b24, .ref b25, .ref b26, .int i27, .ref b28, .ref b29, .ref b30, .ref b31, .ref b32, .ref b33, .ref b34, .ref b35, .ref b36, .int i37, .int i38, .int i39, .int i40, .int i41, .int i42, .int i43, .int i44, .int i45, .ref b46, .ref b47, .ref b48, .ref b49, .ref b50, .ref b51, .ref b52, .ref b53, .ref b54, .ref b55, .ref b56, .ref b57, .ref b58, .ref b59, .ref b60, .ref b61, .ref b62, .ref b63])), (b1, .inl (g.2.1 0, 400, .inl f0))]) X hW 1 rfl (hin9) ef7 rfl dX12_readBit_69 (fun H locs hW => ?_)
      refine lv_iconst (v := 1) (pc := 70) hx hb dX12_readBit_70 (by decide) ?_
      exact e_z X hQ hr hW (u := [(h0, .inr (12, [.int i0, .ref b1, .int (nI n0), .int (nI (rna n0 (ub f0) k0)), .int (-1), .int (nval n0 (ub f0) k0), .ref b6, .ref b7, .ref b8, .ref b9, .ref b10, .ref b11, .ref b12, .ref b13, .ref b14, .ref b15, .ref b16, .ref b17, .int i18, .int i19, .int i20, .ref b21, .ref b22, .ref b23, .ref b24, .ref b25, .ref b26, .int i27, .ref b28, .ref b29, .ref b30, .ref b31, .ref b32, .ref b33, .ref b34, .ref b35, .ref b36, .int i37, .int i38, .int i39, .int i40, .int i41, .int i42, .int i43, .int i44, .int i45, .ref b46, .ref b47, .ref b48, .ref b49, .ref b50, .ref b51, .ref b52, .ref b53, .ref b54, .ref b55, .ref b56, .ref b57, .ref b58, .ref b59, .ref b60, .ref b61, .ref b62, .ref b63])), (b1, .inl (g.2.1 0, 400, .inl f0)), (b6, .inl (g.2.1 1, 11, .inl P)), (rw, .inl (g.2.1 1, N, .inl f7))]) rfl [2, 3, 0, 1] rfl rfl (⟨(bJ_3 (v := v) (N := i5) (r := g1) y1 hz).1.symm, by rw [← ef7, (bJ_3 (v := v) (N := i5) (r := g1) y1 hz).2.1, (bJ_3 (v := v) (N := i5) (r := g1) y1 hz).2.2.1, (bJ_3 (v := v) (N := i5) (r := g1) y1 hz).2.2.2.1, (bJ_3 (v := v) (N := i5) (r := g1) y1 hz).2.2.2.2, nI_clamp (by omega)]⟩) ⟨Nat.le_of_ble_eq_true rfl, Nat.le_of_ble_eq_true rfl⟩ dX12_readBit_71
    · refine lv_iload_n (pc := 25) hx hb dX12_readBit_25 rfl (lv_at hl 4 rfl) ?_
      refine lv_if_eq (tgt := 41) (pc := 26) hx hb dX12_readBit_26 rfl (fun c8 => absurd c8 hz) (fun c8 => ?_)
      refine lv_aload_n (pc := 29) hx hb dX12_readBit_29 rfl (lv_at hl 1 rfl) ?_
      refine lv_iconst (v := 0) (pc := 30) hx hb dX12_readBit_30 (by decide) ?_
      refine lv_iconst (v := 3) (pc := 31) hx hb dX12_readBit_31 (by decide) ?_
      refine lv_iconst (v := (-1)) (pc := 32) hx hb dX12_readBit_32 (by decide) ?_
      refine c_Vi (pc := 33) (As := [.int 0, .int 3, .int (-1)]) (rest := []) (wr := [(b6, .inl (g.2.1 1, 11, .inl P)), (rw, .inl (g.2.1 1, N, .inl g1))]) X hW 2 ciX12 rfl (C_X12_numberG l g h0 b1 b6 b7 b8 b9 b10 b11 b12 b13 b14 b15 b16 b17 b21 b22 b23 b24 b25 b26 b28 b29 b30 b31 b32 b33 b34 b35 b36 b46 b47 b48 b49 b50 b51 b52 b53 b54 b55 b56 b57 b58 b59 b60 b61 b62 b63 i0 (-1) (nval n0 (ub f0) k0) i18 i19 i20 i27 i37 i38 i39 i40 i41 i42 i43 i44 i45 f0 n0 hn0 (rna n0 (ub f0) k0) 0 3 (-1) (by omega)) vX12_202 [2, 3] [0, 1] rfl rfl rfl rfl rfl rfl hl.1 rfl (Nat.le_of_ble_eq_true rfl) ⟨Nat.le_of_ble_eq_true rfl, Nat.le_of_ble_eq_true rfl⟩ ⟨Nat.le_of_ble_eq_true rfl, Nat.le_of_ble_eq_true rfl⟩ dX12_readBit_33 (fun r9 u9 H locs hq hW => ?_)
      obtain ⟨rfl, rfl⟩ := hq
      have hr33 := rna_le (f := ub f0) hn0 (show (rna n0 (ub f0) k0) ≤ n0 by omega)
      have hW : WD g A s _ _ [(b6, .inl (g.2.1 1, 11, .inl P)), (rw, .inl (g.2.1 1, N, .inl g1)), (h0, .inr (12, [.int i0, .ref b1, .int (nI n0), .int (nI (rna n0 (ub f0) (rna n0 (ub f0) k0))), .int (rnf n0 (ub f0) (rna n0 (ub f0) k0) 0 3 (-1) (-1)), .int (rnv n0 (ub f0) (rna n0 (ub f0) k0) (nval n0 (ub f0) k0)), .ref b6, .ref b7, .ref b8, .ref b9, .ref b10, .ref b11, .ref b12, .ref b13, .ref b14, .ref b15, .ref b16, .ref b17, .int i18, .int i19, .int i20, .ref b21, .ref b22, .ref b23, .ref b24, .ref b25, .ref b26, .int i27, .ref b28, .ref b29, .ref b30, .ref b31, .ref b32, .ref b33, .ref b34, .ref b35, .ref b36, .int i37, .int i38, .int i39, .int i40, .int i41, .int i42, .int i43, .int i44, .int i45, .ref b46, .ref b47, .ref b48, .ref b49, .ref b50, .ref b51, .ref b52, .ref b53, .ref b54, .ref b55, .ref b56, .ref b57, .ref b58, .ref b59, .ref b60, .ref b61, .ref b62, .ref b63])), (b1, .inl (g.2.1 0, 400, .inl f0))] := hW
      refine lv_if_ne (tgt := 41) (pc := 36) hx hb dX12_readBit_36 rfl (fun c10 => ?_) (fun c10 => ?_)
      · have y2 := c10
        rw [(rn_y (v := (nval n0 (ub f0) k0)) (i := (-1)) y2).1, (rn_y (v := (nval n0 (ub f0) k0)) (i := (-1)) y2).2.1] at hW
        have hin9 : vp_in (nI (4 * v) + va2 n0 (ub f0) k0) N := in03 (fun q => (rn_y (v := 0) (i := 0) y2).2.2.2.2.1 (Or.inl q)) (fun q => (rn_y (v := 0) (i := 0) y2).2.2.2.2.1 (Or.inr (Or.inl q))) (hN hz) hNN
        refine lv_iload_n (pc := 41) hx hb dX12_readBit_41 rfl (lv_at hl 4 rfl) ?_
        refine lv_if_eq (tgt := 56) (pc := 42) hx hb dX12_readBit_42 rfl (fun c11 => absurd c11 hz) (fun c11 => ?_)
        refine lv_iconst (v := 4) (pc := 45) hx hb dX12_readBit_45 (by decide) ?_
        refine lv_iload_n (pc := 46) hx hb dX12_readBit_46 rfl (lv_at hl 2 rfl) ?_
        refine lv_imul (pc := 47) hx hb dX12_readBit_47 ?_
        refine lv_topi (fun v12 ev12 => ?_)
        obtain rfl : v12 = nI (4 * v) := ev12.trans (pk_mul _ _)
        refine lv_aload_n (pc := 48) hx hb dX12_readBit_48 rfl (lv_at hl 1 rfl) ?_
        refine r_get X hW 2 ciX12 5 rfl (by decide) m_1236 rfl rfl dX12_readBit_49 ?_
        refine lv_iadd (pc := 52) hx hb dX12_readBit_52 ?_
        refine lv_goto (tgt := 57) (pc := 53) hx hb dX12_readBit_53 rfl ?_
        refine lv_istore (lv' := [(5, .int ((nI (4 * v)) + (nval n0 (ub f0) (rna n0 (ub f0) k0)))), (4, .int (nval n0 (ub f0) k0)), (0, .ref h0), (1, .int (nI v)), (2, .ref rw), (3, .int h)]) (pc := 57) hx hb dX12_readBit_57 hl (by decide) rfl (fun ls hl => ?_)
        refine lv_aload_n (pc := 59) hx hb dX12_readBit_59 rfl (lv_at hl 4 rfl) ?_
        refine lv_iload (pc := 60) hx hb dX12_readBit_60 (lv_at hl 0 rfl) ?_
        refine lv_dup2_11 (pc := 62) hx hb dX12_readBit_62 rfl rfl ?_
        refine r_iald X hW 1 rfl (hin9) dX12_readBit_63 ?_
        refine lv_iconst (v := 1) (pc := 64) hx hb dX12_readBit_64 (by decide) ?_
        refine lv_iload (pc := 65) hx hb dX12_readBit_65 (lv_at hl 1 rfl) ?_
        refine lv_ishl (pc := 67) hx hb dX12_readBit_67 ?_
        refine lv_ior (pc := 68) hx hb dX12_readBit_68 ?_
        obtain ⟨f13, ef13⟩ : ∃ fz : Nat → Int32, upd g1 ((nI (4 * v)) + (nval n0 (ub f0) (rna n0 (ub f0) k0))).toNatClampNeg ((g1 ((nI (4 * v)) + (nval n0 (ub f0) (rna n0 (ub f0) k0))).toNatClampNeg) ||| (1 <<< ((nval n0 (ub f0) k0) &&& 31))) = fz := ⟨_, rfl⟩
        refine r_iast (ws' := [(b6, .inl (g.2.1 1, 11, .inl P)), (rw, .inl (g.2.1 1, N, .inl f13)), (h0, .inr (12, [.int i0, .ref b1, .int (nI n0), .int (nI (rna n0 (ub f0) (rna n0 (ub f0) k0))), .int (-1), .int (nval n0 (ub f0) (rna n0 (ub f0) k0)), .ref b6, .ref b7, .ref b8, .ref b9, .ref b10, .ref b11, .ref b12, .ref b13, .ref b14, .ref b15, .ref b16, .ref b17, .int i18, .int i19, .int i20, .ref b21, .ref b22, .ref b23, .ref b24, .ref b25, .ref b26, .int i27, .ref b28, .ref b29, .ref b30, .ref b31, .ref b32, .ref b33, .ref b34, .ref b35, .ref b36, .int i37, .int i38, .int i39, .int i40, .int i41, .int i42, .int i43, .int i44, .int i45, .ref b46, .ref b47, .ref b48, .ref b49, .ref b50, .ref b51, .ref b52, .ref b53, .ref b54, .ref b55, .ref b56, .ref b57, .ref b58, .ref b59, .ref b60, .ref b61, .ref b62, .ref b63])), (b1, .inl (g.2.1 0, 400, .inl f0))]) X hW 1 rfl (hin9) ef13 rfl dX12_readBit_69 (fun H locs hW => ?_)
        refine lv_iconst (v := 1) (pc := 70) hx hb dX12_readBit_70 (by decide) ?_
        exact e_z X hQ hr hW (u := [(h0, .inr (12, [.int i0, .ref b1, .int (nI n0), .int (nI (rna n0 (ub f0) (rna n0 (ub f0) k0))), .int (-1), .int (nval n0 (ub f0) (rna n0 (ub f0) k0)), .ref b6, .ref b7, .ref b8, .ref b9, .ref b10, .ref b11, .ref b12, .ref b13, .ref b14, .ref b15, .ref b16, .ref b17, .int i18, .int i19, .int i20, .ref b21, .ref b22, .ref b23, .ref b24, .ref b25, .ref b26, .int i27, .ref b28, .ref b29, .ref b30, .ref b31, .ref b32, .ref b33, .ref b34, .ref b35, .ref b36, .int i37, .int i38, .int i39, .int i40, .int i41, .int i42, .int i43, .int i44, .int i45, .ref b46, .ref b47, .ref b48, .ref b49, .ref b50, .ref b51, .ref b52, .ref b53, .ref b54, .ref b55, .ref b56, .ref b57, .ref b58, .ref b59, .ref b60, .ref b61, .ref b62, .ref b63])), (b1, .inl (g.2.1 0, 400, .inl f0)), (b6, .inl (g.2.1 1, 11, .inl P)), (rw, .inl (g.2.1 1, N, .inl f13))]) rfl [2, 3, 0, 1] rfl rfl (⟨(bJ_4 (v := v) (N := i5) (r := g1) y1 hz y2).1.symm, by rw [← ef13, (bJ_4 (v := v) (N := i5) (r := g1) y1 hz y2).2.1, (bJ_4 (v := v) (N := i5) (r := g1) y1 hz y2).2.2.1, (bJ_4 (v := v) (N := i5) (r := g1) y1 hz y2).2.2.2.1, (bJ_4 (v := v) (N := i5) (r := g1) y1 hz y2).2.2.2.2]⟩) ⟨Nat.le_of_ble_eq_true rfl, Nat.le_of_ble_eq_true rfl⟩ dX12_readBit_71
      · refine lv_iconst (v := 0) (pc := 39) hx hb dX12_readBit_39 (by decide) ?_
        exact e_z X hQ hr hW (u := [(h0, .inr (12, [.int i0, .ref b1, .int (nI n0), .int (nI (rna n0 (ub f0) (rna n0 (ub f0) k0))), .int (rnf n0 (ub f0) (rna n0 (ub f0) k0) 0 3 (-1) (-1)), .int (rnv n0 (ub f0) (rna n0 (ub f0) k0) (nval n0 (ub f0) k0)), .ref b6, .ref b7, .ref b8, .ref b9, .ref b10, .ref b11, .ref b12, .ref b13, .ref b14, .ref b15, .ref b16, .ref b17, .int i18, .int i19, .int i20, .ref b21, .ref b22, .ref b23, .ref b24, .ref b25, .ref b26, .int i27, .ref b28, .ref b29, .ref b30, .ref b31, .ref b32, .ref b33, .ref b34, .ref b35, .ref b36, .int i37, .int i38, .int i39, .int i40, .int i41, .int i42, .int i43, .int i44, .int i45, .ref b46, .ref b47, .ref b48, .ref b49, .ref b50, .ref b51, .ref b52, .ref b53, .ref b54, .ref b55, .ref b56, .ref b57, .ref b58, .ref b59, .ref b60, .ref b61, .ref b62, .ref b63])), (b1, .inl (g.2.1 0, 400, .inl f0)), (b6, .inl (g.2.1 1, 11, .inl P)), (rw, .inl (g.2.1 1, N, .inl g1))]) rfl [2, 3, 0, 1] rfl rfl (⟨(bJ_2 (v := v) (N := i5) (r := g1) y1 hz c10).1.symm, by rw [(bJ_2 (v := v) (N := i5) (r := g1) y1 hz c10).2.1, (bJ_2 (v := v) (N := i5) (r := g1) y1 hz c10).2.2.1, (bJ_2 (v := v) (N := i5) (r := g1) y1 hz c10).2.2.2.1, (bJ_2 (v := v) (N := i5) (r := g1) y1 hz c10).2.2.2.2]⟩) ⟨Nat.le_of_ble_eq_true rfl, Nat.le_of_ble_eq_true rfl⟩ dX12_readBit_40
  · refine lv_iconst (v := 0) (pc := 17) hx hb dX12_readBit_17 (by decide) ?_
    exact e_z X hQ hr hW (u := [(h0, .inr (12, [.int i0, .ref b1, .int (nI n0), .int (nI (rna n0 (ub f0) k0)), .int (rnf n0 (ub f0) k0 0 (P v - 1) (-1) (-1)), .int (rnv n0 (ub f0) k0 i5), .ref b6, .ref b7, .ref b8, .ref b9, .ref b10, .ref b11, .ref b12, .ref b13, .ref b14, .ref b15, .ref b16, .ref b17, .int i18, .int i19, .int i20, .ref b21, .ref b22, .ref b23, .ref b24, .ref b25, .ref b26, .int i27, .ref b28, .ref b29, .ref b30, .ref b31, .ref b32, .ref b33, .ref b34, .ref b35, .ref b36, .int i37, .int i38, .int i39, .int i40, .int i41, .int i42, .int i43, .int i44, .int i45, .ref b46, .ref b47, .ref b48, .ref b49, .ref b50, .ref b51, .ref b52, .ref b53, .ref b54, .ref b55, .ref b56, .ref b57, .ref b58, .ref b59, .ref b60, .ref b61, .ref b62, .ref b63])), (b1, .inl (g.2.1 0, 400, .inl f0)), (b6, .inl (g.2.1 1, 11, .inl P)), (rw, .inl (g.2.1 1, N, .inl g1))]) rfl [2, 3, 0, 1] rfl rfl (⟨(bJ_1 (v := v) (h := h) (N := i5) (r := g1) c4).1.symm, by rw [(bJ_1 (v := v) (h := h) (N := i5) (r := g1) c4).2.1, (bJ_1 (v := v) (h := h) (N := i5) (r := g1) c4).2.2.1, (bJ_1 (v := v) (h := h) (N := i5) (r := g1) c4).2.2.2.1, (bJ_1 (v := v) (h := h) (N := i5) (r := g1) c4).2.2.2.2]⟩) ⟨Nat.le_of_ble_eq_true rfl, Nat.le_of_ble_eq_true rfl⟩ dX12_readBit_18

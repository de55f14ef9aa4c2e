/-- the draws: a step of x, whom it calls, an hour, the hours -/
def lcg (x : Int64) : Int64 := x * 6364136223846793005 + 1442695040888963407
def shr33 (x : Int64) : Int64 := (x.toUInt64 >>> ((33 : Int32).toInt64.toUInt64 &&& Int64.toUInt64 63)).toInt64
def plcL (n : Nat) (x : Int64) : Int64 := shr33 x - shr33 x / lN (n - 1) * lN (n - 1)
def plc (n : Nat) (x : Int64) : Int32 := (plcL n x).toInt32
def oth (o p : Int32) : Int32 := if p < o then p else p + 1
def hasv (a b : Int32) : Int32 := if ((a >>> (b &&& 31)) &&& 1) = 0 then 0 else 1
def drO (n : Nat) (kn : Int32) : Nat → Int64 → Int32 × Int64
  | 0, x => (0, x)
  | o + 1, x => (if hasv kn (nI o) = 0 then (drO n kn o x).1 else (drO n kn o x).1 ||| ((1 : Int32) <<< (oth (nI o) (plc n (lcg (drO n kn o x).2)) &&& 31)), lcg (drO n kn o x).2)
def evr (n : Nat) : Int32 := ((1 : Int32) <<< (nI n &&& 31)) - 1
def drH (n : Nat) : Nat → Int32 → Int32 → Int64 → Int32
  | 0, _, _, _ => (-1)
  | r + 1, hr, kn, x => if kn ||| (drO n kn n x).1 = evr n then hr else drH n r (hr + 1) (kn ||| (drO n kn n x).1) (drO n kn n x).2
theorem hasv_0 {a b : Int32} (h : ((a >>> (b &&& 31)) &&& 1) = 0) : 0 = hasv a b := by rw [hasv, if_pos h]
theorem hasv_1 {a b : Int32} (h : ¬ ((a >>> (b &&& 31)) &&& 1) = 0) : 1 = hasv a b := by rw [hasv, if_neg h]
theorem hasv_z (a b : Int32) : narrow .boolean (.int (hasv a b)) = .int (hasv a b) := by unfold hasv; split <;> rfl
theorem bit1 (x : Int32) : x &&& 1 = 0 ∨ x &&& 1 = 1 := by
  obtain ⟨j, hj, e⟩ := pk_andE x (m := 1) 1 (by decide)
  rcases (show j = 0 ∨ j = 1 by omega) with rfl | rfl
  · exact Or.inl e
  · exact Or.inr e
theorem zero_shl (t : Int32) : (0 : Int32) <<< t = 0 := by simp
theorem cal_eq (kn o t ca : Int32) : ca ||| (((kn >>> (o &&& 31)) &&& 1) <<< (t &&& 31)) = if hasv kn o = 0 then ca else ca ||| ((1 : Int32) <<< (t &&& 31)) := by
  rcases bit1 (kn >>> (o &&& 31)) with h | h
  · rw [h, ← hasv_0 h, if_pos rfl, zero_shl]; simp
  · have h1 : ¬ ((kn >>> (o &&& 31)) &&& 1) = 0 := by rw [h]; decide
    rw [h, ← hasv_1 h1, if_neg (by decide)]
theorem drO_1 {n o : Nat} {kn ca : Int32} {x y : Int64} (h : drO n kn o x = (ca, y)) : drO n kn (o + 1) x = (if hasv kn (nI o) = 0 then ca else ca ||| ((1 : Int32) <<< (oth (nI o) (plc n (lcg y)) &&& 31)), lcg y) := by
  simp only [drO, h]
theorem mx1 : ∀ n, n < 8 → 2 ≤ n → (if (1 : Int32) < nI (n - 1) then nI (n - 1) else 1) = nI (n - 1) := by decide +kernel
theorem nz1 {n : Nat} (h : 2 ≤ n) (h7 : n ≤ 7) : ¬ lN (n - 1) = 0 := by
  intro q
  have h2 : lN (n - 1) = lN 0 := q
  rw [pk_lEQ (by omega) (by decide)] at h2
  omega
/-- the answer, for any numbers -/
def dOk (p0 p1 : Int32) : Prop := 2 ≤ p0.toInt ∧ p0.toInt ≤ 7 ∧ 0 ≤ p1.toInt ∧ p1.toInt < p0.toInt
theorem i0 : (0 : Int32).toInt = 0 := by decide
theorem i1 : (1 : Int32).toInt = 1 := by decide
theorem i2 : (2 : Int32).toInt = 2 := by decide
theorem i4 : (4 : Int32).toInt = 4 := by decide
theorem i7 : (7 : Int32).toInt = 7 := by decide
theorem i8 : (8 : Int32).toInt = 8 := by decide
def dv (p0 p1 : Int32) (s : Int64) : Int32 := if 2 ≤ p0.toInt ∧ p0.toInt ≤ 7 ∧ 0 ≤ p1.toInt ∧ p1.toInt < p0.toInt then drH p0.toInt.toNat 60 1 ((1 : Int32) <<< (p1 &&& 31)) s else (-1)
theorem dv_no {p0 p1 : Int32} {s : Int64} (h : ¬ dOk p0 p1) : (-1) = dv p0 p1 s := by
  unfold dv
  exact (if_neg h).symm
theorem dv_yes {p0 p1 : Int32} (s : Int64) (h : dOk p0 p1) : ∃ n fi : Nat, 2 ≤ n ∧ n ≤ 7 ∧ fi < n ∧ p0 = nI n ∧ p1 = nI fi ∧ dv p0 p1 s = drH n 60 1 ((1 : Int32) <<< (nI fi &&& 31)) s := by
  obtain ⟨h1, h2, h3, h4⟩ := id h
  have e0 : p0 = nI p0.toInt.toNat := by rw [fa_eq, nI_toInt (by omega)]; omega
  have e1 : p1 = nI p1.toInt.toNat := by rw [fa_eq, nI_toInt (by omega)]; omega
  refine ⟨p0.toInt.toNat, p1.toInt.toNat, by omega, by omega, by omega, e0, e1, ?_⟩
  unfold dv
  exact (if_pos h).trans (by rw [← e1])
/-- a number within bounds -/
def inv3 (v a b : Int32) : Int32 := if ¬ v < a ∧ ¬ b < v then 1 else 0
theorem inv3_z (v a b : Int32) : narrow .boolean (.int (inv3 v a b)) = .int (inv3 v a b) := by unfold inv3; split <;> rfl
theorem inv3_0 {v a b : Int32} (h : inv3 v a b = 0) : v < a ∨ b < v := by
  by_cases h1 : v < a
  · exact Or.inl h1
  · by_cases h2 : b < v
    · exact Or.inr h2
    · rw [inv3, if_pos ⟨h1, h2⟩] at h; exact absurd h (by decide)
theorem inv3_1 {v a b : Int32} (h : ¬ inv3 v a b = 0) : ¬ v < a ∧ ¬ b < v := by
  by_cases h1 : ¬ v < a ∧ ¬ b < v
  · exact h1
  · rw [inv3, if_neg h1] at h; exact absurd rfl h
theorem m_488 : (Cond.code yX11_has prog_1_method_44_code 2 (Option.some FieldType.boolean)) ∈ BW := bw (tb3 8 (by decide +kernel)) (by decide +kernel)
theorem dX11_has_0 : decode cX11_has 0 = .ok (.iload_n 0, 1) := by decide +kernel
theorem dX11_has_1 : decode cX11_has 1 = .ok (.iload_n 1, 1) := by decide +kernel
theorem dX11_has_2 : decode cX11_has 2 = .ok (.ishr, 1) := by decide +kernel
theorem dX11_has_3 : decode cX11_has 3 = .ok (.iconst 1, 1) := by decide +kernel
theorem dX11_has_4 : decode cX11_has 4 = .ok (.iand, 1) := by decide +kernel
theorem dX11_has_5 : decode cX11_has 5 = .ok (.ifCond .eq 7, 3) := by decide +kernel
theorem dX11_has_12 : decode cX11_has 12 = .ok (.iconst 0, 1) := by decide +kernel
theorem dX11_has_13 : decode cX11_has 13 = .ok (.ireturn, 1) := by decide +kernel
theorem dX11_has_8 : decode cX11_has 8 = .ok (.iconst 1, 1) := by decide +kernel
theorem dX11_has_9 : decode cX11_has 9 = .ok (.goto 4, 3) := by decide +kernel
theorem m_1093 : (Cond.code yX2_other prog_4_method_5_code 2 (Option.some FieldType.int)) ∈ BW := bw (tb5 133 (by decide +kernel)) (by decide +kernel)
theorem dX2_other_0 : decode cX2_other 0 = .ok (.iload_n 1, 1) := by decide +kernel
theorem dX2_other_1 : decode cX2_other 1 = .ok (.iload_n 0, 1) := by decide +kernel
theorem dX2_other_2 : decode cX2_other 2 = .ok (.if_icmp .ge 7, 3) := by decide +kernel
theorem dX2_other_9 : decode cX2_other 9 = .ok (.iload_n 1, 1) := by decide +kernel
theorem dX2_other_10 : decode cX2_other 10 = .ok (.iconst 1, 1) := by decide +kernel
theorem dX2_other_11 : decode cX2_other 11 = .ok (.iadd, 1) := by decide +kernel
theorem dX2_other_12 : decode cX2_other 12 = .ok (.ireturn, 1) := by decide +kernel
theorem dX2_other_5 : decode cX2_other 5 = .ok (.iload_n 1, 1) := by decide +kernel
theorem dX2_other_6 : decode cX2_other 6 = .ok (.goto 6, 3) := by decide +kernel
theorem m_1466 : (Cond.code yX12_isIn prog_14_method_3_code 3 (Option.some FieldType.boolean)) ∈ BW := bw (tb7 26 (by decide +kernel)) (by decide +kernel)
theorem dX12_isIn_0 : decode cX12_isIn 0 = .ok (.iload_n 0, 1) := by decide +kernel
theorem dX12_isIn_1 : decode cX12_isIn 1 = .ok (.iload_n 1, 1) := by decide +kernel
theorem dX12_isIn_2 : decode cX12_isIn 2 = .ok (.if_icmp .lt 12, 3) := by decide +kernel
theorem dX12_isIn_14 : decode cX12_isIn 14 = .ok (.iconst 0, 1) := by decide +kernel
theorem dX12_isIn_15 : decode cX12_isIn 15 = .ok (.ireturn, 1) := by decide +kernel
theorem dX12_isIn_5 : decode cX12_isIn 5 = .ok (.iload_n 0, 1) := by decide +kernel
theorem dX12_isIn_6 : decode cX12_isIn 6 = .ok (.iload_n 2, 1) := by decide +kernel
theorem dX12_isIn_7 : decode cX12_isIn 7 = .ok (.if_icmp .gt 7, 3) := by decide +kernel
theorem dX12_isIn_10 : decode cX12_isIn 10 = .ok (.iconst 1, 1) := by decide +kernel
theorem dX12_isIn_11 : decode cX12_isIn 11 = .ok (.goto 4, 3) := by decide +kernel
theorem m_1101 : (Cond.code yX2_drawHours prog_4_method_6_code 13 (Option.some FieldType.int)) ∈ BW := bw (tb5 141 (by decide +kernel)) (by decide +kernel)
theorem dX2_drawHours_0 : decode cX2_drawHours 0 = .ok (.iconst 1, 1) := by decide +kernel
theorem dX2_drawHours_1 : decode cX2_drawHours 1 = .ok (.iload_n 0, 1) := by decide +kernel
theorem dX2_drawHours_2 : decode cX2_drawHours 2 = .ok (.iconst 1, 1) := by decide +kernel
theorem dX2_drawHours_3 : decode cX2_drawHours 3 = .ok (.isub, 1) := by decide +kernel
theorem mm_X2_4 : (Cond.methodLink "NoonValley$Chance" 32 Lib.Math.max.name) ∈ BW := bw (tb5 130 (by decide +kernel)) (by decide +kernel)
theorem mms_max : (Cond.static Lib.Math.max.name) ∈ BW := bw (tb4 233 (by decide +kernel)) (by decide +kernel)
theorem mmc_max : (Cond.code Lib.Math.max.name Lib.Math.max.code 2 (some .int)) ∈ BW := bw (tb4 234 (by decide +kernel)) (by decide +kernel)
theorem m_19 : (Cond.initialized "java/lang/Math") ∈ BW := bw (tb1 19 (by decide +kernel)) (by decide +kernel)
theorem dX2_drawHours_4 : decode cX2_drawHours 4 = .ok (.invokestatic 32, 3) := by decide +kernel
theorem dX2_drawHours_7 : decode cX2_drawHours 7 = .ok (.istore 4, 2) := by decide +kernel
theorem dX2_drawHours_9 : decode cX2_drawHours 9 = .ok (.iconst 1, 1) := by decide +kernel
theorem dX2_drawHours_10 : decode cX2_drawHours 10 = .ok (.iload_n 0, 1) := by decide +kernel
theorem dX2_drawHours_11 : decode cX2_drawHours 11 = .ok (.ishl, 1) := by decide +kernel
theorem dX2_drawHours_12 : decode cX2_drawHours 12 = .ok (.iconst 1, 1) := by decide +kernel
theorem dX2_drawHours_13 : decode cX2_drawHours 13 = .ok (.isub, 1) := by decide +kernel
theorem dX2_drawHours_14 : decode cX2_drawHours 14 = .ok (.istore 5, 2) := by decide +kernel
theorem dX2_drawHours_16 : decode cX2_drawHours 16 = .ok (.iconst 1, 1) := by decide +kernel
theorem dX2_drawHours_17 : decode cX2_drawHours 17 = .ok (.iload_n 1, 1) := by decide +kernel
theorem dX2_drawHours_18 : decode cX2_drawHours 18 = .ok (.ishl, 1) := by decide +kernel
theorem dX2_drawHours_19 : decode cX2_drawHours 19 = .ok (.istore 6, 2) := by decide +kernel
theorem dX2_drawHours_21 : decode cX2_drawHours 21 = .ok (.lload_n 2, 1) := by decide +kernel
theorem dX2_drawHours_22 : decode cX2_drawHours 22 = .ok (.lstore 7, 2) := by decide +kernel
theorem dX2_drawHours_24 : decode cX2_drawHours 24 = .ok (.iconst 1, 1) := by decide +kernel
theorem dX2_drawHours_25 : decode cX2_drawHours 25 = .ok (.istore 9, 2) := by decide +kernel
theorem dX2_drawHours_27 : decode cX2_drawHours 27 = .ok (.iload 9, 2) := by decide +kernel
theorem dX2_drawHours_29 : decode cX2_drawHours 29 = .ok (.bipush 60, 2) := by decide +kernel
theorem dX2_drawHours_31 : decode cX2_drawHours 31 = .ok (.if_icmp .gt 92, 3) := by decide +kernel
theorem dX2_drawHours_123 : decode cX2_drawHours 123 = .ok (.iconst (-1), 1) := by decide +kernel
theorem dX2_drawHours_124 : decode cX2_drawHours 124 = .ok (.ireturn, 1) := by decide +kernel
theorem dX2_drawHours_34 : decode cX2_drawHours 34 = .ok (.iconst 0, 1) := by decide +kernel
theorem dX2_drawHours_35 : decode cX2_drawHours 35 = .ok (.istore 10, 2) := by decide +kernel
theorem dX2_drawHours_37 : decode cX2_drawHours 37 = .ok (.iconst 0, 1) := by decide +kernel
theorem dX2_drawHours_38 : decode cX2_drawHours 38 = .ok (.istore 11, 2) := by decide +kernel
theorem dX2_drawHours_40 : decode cX2_drawHours 40 = .ok (.iload 11, 2) := by decide +kernel
theorem dX2_drawHours_42 : decode cX2_drawHours 42 = .ok (.iload_n 0, 1) := by decide +kernel
theorem dX2_drawHours_43 : decode cX2_drawHours 43 = .ok (.if_icmp .ge 57, 3) := by decide +kernel
theorem dX2_drawHours_100 : decode cX2_drawHours 100 = .ok (.iload 6, 2) := by decide +kernel
theorem dX2_drawHours_102 : decode cX2_drawHours 102 = .ok (.iload 10, 2) := by decide +kernel
theorem dX2_drawHours_104 : decode cX2_drawHours 104 = .ok (.ior, 1) := by decide +kernel
theorem dX2_drawHours_105 : decode cX2_drawHours 105 = .ok (.istore 6, 2) := by decide +kernel
theorem dX2_drawHours_107 : decode cX2_drawHours 107 = .ok (.iload 6, 2) := by decide +kernel
theorem dX2_drawHours_109 : decode cX2_drawHours 109 = .ok (.iload 5, 2) := by decide +kernel
theorem dX2_drawHours_111 : decode cX2_drawHours 111 = .ok (.if_icmp .ne 6, 3) := by decide +kernel
theorem dX2_drawHours_117 : decode cX2_drawHours 117 = .ok (.iinc 9 1, 3) := by decide +kernel
theorem dX2_drawHours_120 : decode cX2_drawHours 120 = .ok (.goto (-93), 3) := by decide +kernel
theorem dX2_drawHours_114 : decode cX2_drawHours 114 = .ok (.iload 9, 2) := by decide +kernel
theorem dX2_drawHours_116 : decode cX2_drawHours 116 = .ok (.ireturn, 1) := by decide +kernel
theorem dX2_drawHours_46 : decode cX2_drawHours 46 = .ok (.lload 7, 2) := by decide +kernel
theorem m_1102 : (Cond.constantLong "NoonValley$Chance" 47 (6364136223846793005 : Int64)) ∈ BW := bw (tb5 142 (by decide +kernel)) (by decide +kernel)
theorem dX2_drawHours_48 : decode cX2_drawHours 48 = .ok (.ldc2_w 47, 3) := by decide +kernel
theorem dX2_drawHours_51 : decode cX2_drawHours 51 = .ok (.lmul, 1) := by decide +kernel
theorem m_1103 : (Cond.constantLong "NoonValley$Chance" 49 (1442695040888963407 : Int64)) ∈ BW := bw (tb5 143 (by decide +kernel)) (by decide +kernel)
theorem dX2_drawHours_52 : decode cX2_drawHours 52 = .ok (.ldc2_w 49, 3) := by decide +kernel
theorem dX2_drawHours_55 : decode cX2_drawHours 55 = .ok (.ladd, 1) := by decide +kernel
theorem dX2_drawHours_56 : decode cX2_drawHours 56 = .ok (.lstore 7, 2) := by decide +kernel
theorem dX2_drawHours_58 : decode cX2_drawHours 58 = .ok (.lload 7, 2) := by decide +kernel
theorem dX2_drawHours_60 : decode cX2_drawHours 60 = .ok (.bipush 33, 2) := by decide +kernel
theorem dX2_drawHours_62 : decode cX2_drawHours 62 = .ok (.lushr, 1) := by decide +kernel
theorem dX2_drawHours_63 : decode cX2_drawHours 63 = .ok (.iload 4, 2) := by decide +kernel
theorem dX2_drawHours_65 : decode cX2_drawHours 65 = .ok (.i2l, 1) := by decide +kernel
theorem dX2_drawHours_66 : decode cX2_drawHours 66 = .ok (.lrem, 1) := by decide +kernel
theorem dX2_drawHours_67 : decode cX2_drawHours 67 = .ok (.l2i, 1) := by decide +kernel
theorem dX2_drawHours_68 : decode cX2_drawHours 68 = .ok (.istore 12, 2) := by decide +kernel
theorem dX2_drawHours_70 : decode cX2_drawHours 70 = .ok (.iload 6, 2) := by decide +kernel
theorem dX2_drawHours_72 : decode cX2_drawHours 72 = .ok (.iload 11, 2) := by decide +kernel
theorem m_1104 : (Cond.methodLinkNest "NoonValley$Chance" 51 yX11_has "NoonValley") ∈ NWS := nw (tb5 144 (by decide +kernel)) (by decide +kernel)
theorem m_487 : (Cond.static yX11_has) ∈ BW := bw (tb3 7 (by decide +kernel)) (by decide +kernel)
theorem vX2_51 : LSN RX2 51 "NoonValley" yX11_has cX11_has 2 (some .boolean) 2 := ⟨m_1104, m_487, m_1, m_488, by decide, by decide, by decide +kernel⟩
theorem dX2_drawHours_74 : decode cX2_drawHours 74 = .ok (.invokestatic 51, 3) := by decide +kernel
theorem dX2_drawHours_77 : decode cX2_drawHours 77 = .ok (.ifCond .eq 17, 3) := by decide +kernel
theorem dX2_drawHours_94 : decode cX2_drawHours 94 = .ok (.iinc 11 1, 3) := by decide +kernel
theorem dX2_drawHours_97 : decode cX2_drawHours 97 = .ok (.goto (-57), 3) := by decide +kernel
theorem dX2_drawHours_80 : decode cX2_drawHours 80 = .ok (.iload 10, 2) := by decide +kernel
theorem dX2_drawHours_82 : decode cX2_drawHours 82 = .ok (.iconst 1, 1) := by decide +kernel
theorem dX2_drawHours_83 : decode cX2_drawHours 83 = .ok (.iload 11, 2) := by decide +kernel
theorem dX2_drawHours_85 : decode cX2_drawHours 85 = .ok (.iload 12, 2) := by decide +kernel
theorem m_1091 : (Cond.methodLink "NoonValley$Chance" 38 yX2_other) ∈ BW := bw (tb5 131 (by decide +kernel)) (by decide +kernel)
theorem m_1092 : (Cond.static yX2_other) ∈ BW := bw (tb5 132 (by decide +kernel)) (by decide +kernel)
theorem vX2_38 : LST RX2 38 yX2_other cX2_other 2 (some .int) 2 := ⟨m_1091, m_1092, m_10, m_1093, by decide, by decide, by decide +kernel⟩
theorem dX2_drawHours_87 : decode cX2_drawHours 87 = .ok (.invokestatic 38, 3) := by decide +kernel
theorem dX2_drawHours_90 : decode cX2_drawHours 90 = .ok (.ishl, 1) := by decide +kernel
theorem dX2_drawHours_91 : decode cX2_drawHours 91 = .ok (.ior, 1) := by decide +kernel
theorem dX2_drawHours_92 : decode cX2_drawHours 92 = .ok (.istore 10, 2) := by decide +kernel
theorem m_1098 : (Cond.code yX11_drawn prog_1_method_34_code 5 (Option.some FieldType.int)) ∈ BW := bw (tb5 138 (by decide +kernel)) (by decide +kernel)
theorem dX11_drawn_0 : decode cX11_drawn 0 = .ok (.iload_n 1, 1) := by decide +kernel
theorem dX11_drawn_1 : decode cX11_drawn 1 = .ok (.iconst 2, 1) := by decide +kernel
theorem dX11_drawn_2 : decode cX11_drawn 2 = .ok (.if_icmp .lt 18, 3) := by decide +kernel
theorem dX11_drawn_20 : decode cX11_drawn 20 = .ok (.iconst (-1), 1) := by decide +kernel
theorem dX11_drawn_21 : decode cX11_drawn 21 = .ok (.ireturn, 1) := by decide +kernel
theorem dX11_drawn_5 : decode cX11_drawn 5 = .ok (.iload_n 1, 1) := by decide +kernel
theorem dX11_drawn_6 : decode cX11_drawn 6 = .ok (.bipush 7, 2) := by decide +kernel
theorem dX11_drawn_8 : decode cX11_drawn 8 = .ok (.if_icmp .gt 12, 3) := by decide +kernel
theorem dX11_drawn_11 : decode cX11_drawn 11 = .ok (.iload_n 2, 1) := by decide +kernel
theorem dX11_drawn_12 : decode cX11_drawn 12 = .ok (.ifCond .lt 8, 3) := by decide +kernel
theorem dX11_drawn_15 : decode cX11_drawn 15 = .ok (.iload_n 2, 1) := by decide +kernel
theorem dX11_drawn_16 : decode cX11_drawn 16 = .ok (.iload_n 1, 1) := by decide +kernel
theorem dX11_drawn_17 : decode cX11_drawn 17 = .ok (.if_icmp .lt 5, 3) := by decide +kernel
theorem dX11_drawn_22 : decode cX11_drawn 22 = .ok (.iload_n 1, 1) := by decide +kernel
theorem dX11_drawn_23 : decode cX11_drawn 23 = .ok (.iload_n 2, 1) := by decide +kernel
theorem dX11_drawn_24 : decode cX11_drawn 24 = .ok (.lload_n 3, 1) := by decide +kernel
theorem m_1099 : (Cond.methodLink "NoonValley" 304 yX2_drawHours) ∈ BW := bw (tb5 139 (by decide +kernel)) (by decide +kernel)
theorem m_1100 : (Cond.static yX2_drawHours) ∈ BW := bw (tb5 140 (by decide +kernel)) (by decide +kernel)
theorem vX11_304 : LST RX11 304 yX2_drawHours cX2_drawHours 13 (some .int) 3 := ⟨m_1099, m_1100, m_10, m_1101, by decide, by decide, by decide +kernel⟩
theorem dX11_drawn_25 : decode cX11_drawn 25 = .ok (.invokestatic 304, 3) := by decide +kernel
theorem dX11_drawn_28 : decode cX11_drawn 28 = .ok (.ireturn, 1) := by decide +kernel
theorem m_1767 : (Cond.code yX12_drawn prog_14_method_89_code 13 (Option.some FieldType.int)) ∈ BW := bw (tb8 87 (by decide +kernel)) (by decide +kernel)
theorem dX12_drawn_0 : decode cX12_drawn 0 = .ok (.aload_n 0, 1) := by decide +kernel
theorem dX12_drawn_1 : decode cX12_drawn 1 = .ok (.iconst 0, 1) := by decide +kernel
theorem dX12_drawn_2 : decode cX12_drawn 2 = .ok (.putfield 160, 3) := by decide +kernel
theorem dX12_drawn_5 : decode cX12_drawn 5 = .ok (.iload_n 1, 1) := by decide +kernel
theorem dX12_drawn_6 : decode cX12_drawn 6 = .ok (.iconst 2, 1) := by decide +kernel
theorem dX12_drawn_7 : decode cX12_drawn 7 = .ok (.bipush 7, 2) := by decide +kernel
theorem m_1464 : (Cond.methodLink "NoonValleyModel" 198 yX12_isIn) ∈ BW := bw (tb7 24 (by decide +kernel)) (by decide +kernel)
theorem m_1465 : (Cond.static yX12_isIn) ∈ BW := bw (tb7 25 (by decide +kernel)) (by decide +kernel)
theorem vX12_198 : LST RX12 198 yX12_isIn cX12_isIn 3 (some .boolean) 3 := ⟨m_1464, m_1465, m_12, m_1466, by decide, by decide, by decide +kernel⟩
theorem dX12_drawn_9 : decode cX12_drawn 9 = .ok (.invokestatic 198, 3) := by decide +kernel
theorem dX12_drawn_12 : decode cX12_drawn 12 = .ok (.ifCond .eq 14, 3) := by decide +kernel
theorem dX12_drawn_26 : decode cX12_drawn 26 = .ok (.iconst (-1), 1) := by decide +kernel
theorem dX12_drawn_27 : decode cX12_drawn 27 = .ok (.ireturn, 1) := by decide +kernel
theorem dX12_drawn_15 : decode cX12_drawn 15 = .ok (.iload_n 2, 1) := by decide +kernel
theorem dX12_drawn_16 : decode cX12_drawn 16 = .ok (.iconst 0, 1) := by decide +kernel
theorem dX12_drawn_17 : decode cX12_drawn 17 = .ok (.iload_n 1, 1) := by decide +kernel
theorem dX12_drawn_18 : decode cX12_drawn 18 = .ok (.iconst 1, 1) := by decide +kernel
theorem dX12_drawn_19 : decode cX12_drawn 19 = .ok (.isub, 1) := by decide +kernel
theorem dX12_drawn_20 : decode cX12_drawn 20 = .ok (.invokestatic 198, 3) := by decide +kernel
theorem dX12_drawn_23 : decode cX12_drawn 23 = .ok (.ifCond .ne 5, 3) := by decide +kernel
theorem dX12_drawn_28 : decode cX12_drawn 28 = .ok (.iconst 1, 1) := by decide +kernel
theorem dX12_drawn_29 : decode cX12_drawn 29 = .ok (.iload_n 2, 1) := by decide +kernel
theorem dX12_drawn_30 : decode cX12_drawn 30 = .ok (.ishl, 1) := by decide +kernel
theorem dX12_drawn_31 : decode cX12_drawn 31 = .ok (.istore 5, 2) := by decide +kernel
theorem dX12_drawn_33 : decode cX12_drawn 33 = .ok (.lload_n 3, 1) := by decide +kernel
theorem dX12_drawn_34 : decode cX12_drawn 34 = .ok (.lstore 6, 2) := by decide +kernel
theorem dX12_drawn_36 : decode cX12_drawn 36 = .ok (.iconst 1, 1) := by decide +kernel
theorem dX12_drawn_37 : decode cX12_drawn 37 = .ok (.istore 8, 2) := by decide +kernel
theorem dX12_drawn_39 : decode cX12_drawn 39 = .ok (.iload 8, 2) := by decide +kernel
theorem dX12_drawn_41 : decode cX12_drawn 41 = .ok (.bipush 60, 2) := by decide +kernel
theorem dX12_drawn_43 : decode cX12_drawn 43 = .ok (.if_icmp .gt 105, 3) := by decide +kernel
theorem dX12_drawn_148 : decode cX12_drawn 148 = .ok (.iconst (-1), 1) := by decide +kernel
theorem dX12_drawn_149 : decode cX12_drawn 149 = .ok (.ireturn, 1) := by decide +kernel
theorem dX12_drawn_46 : decode cX12_drawn 46 = .ok (.iconst 0, 1) := by decide +kernel
theorem dX12_drawn_47 : decode cX12_drawn 47 = .ok (.istore 9, 2) := by decide +kernel
theorem dX12_drawn_49 : decode cX12_drawn 49 = .ok (.iconst 0, 1) := by decide +kernel
theorem dX12_drawn_50 : decode cX12_drawn 50 = .ok (.istore 10, 2) := by decide +kernel
theorem dX12_drawn_52 : decode cX12_drawn 52 = .ok (.iload 10, 2) := by decide +kernel
theorem dX12_drawn_54 : decode cX12_drawn 54 = .ok (.iload_n 1, 1) := by decide +kernel
theorem dX12_drawn_55 : decode cX12_drawn 55 = .ok (.if_icmp .ge 67, 3) := by decide +kernel
theorem dX12_drawn_122 : decode cX12_drawn 122 = .ok (.iload 5, 2) := by decide +kernel
theorem dX12_drawn_124 : decode cX12_drawn 124 = .ok (.iload 9, 2) := by decide +kernel
theorem dX12_drawn_126 : decode cX12_drawn 126 = .ok (.ior, 1) := by decide +kernel
theorem dX12_drawn_127 : decode cX12_drawn 127 = .ok (.istore 5, 2) := by decide +kernel
theorem dX12_drawn_129 : decode cX12_drawn 129 = .ok (.iload 5, 2) := by decide +kernel
theorem dX12_drawn_131 : decode cX12_drawn 131 = .ok (.iconst 1, 1) := by decide +kernel
theorem dX12_drawn_132 : decode cX12_drawn 132 = .ok (.iload_n 1, 1) := by decide +kernel
theorem dX12_drawn_133 : decode cX12_drawn 133 = .ok (.ishl, 1) := by decide +kernel
theorem dX12_drawn_134 : decode cX12_drawn 134 = .ok (.iconst 1, 1) := by decide +kernel
theorem dX12_drawn_135 : decode cX12_drawn 135 = .ok (.isub, 1) := by decide +kernel
theorem dX12_drawn_136 : decode cX12_drawn 136 = .ok (.if_icmp .ne 6, 3) := by decide +kernel
theorem dX12_drawn_142 : decode cX12_drawn 142 = .ok (.iinc 8 1, 3) := by decide +kernel
theorem dX12_drawn_145 : decode cX12_drawn 145 = .ok (.goto (-106), 3) := by decide +kernel
theorem dX12_drawn_139 : decode cX12_drawn 139 = .ok (.iload 8, 2) := by decide +kernel
theorem dX12_drawn_141 : decode cX12_drawn 141 = .ok (.ireturn, 1) := by decide +kernel
theorem dX12_drawn_58 : decode cX12_drawn 58 = .ok (.lload 6, 2) := by decide +kernel
theorem m_1768 : (Cond.constantLong "NoonValleyModel" 394 (6364136223846793005 : Int64)) ∈ BW := bw (tb8 88 (by decide +kernel)) (by decide +kernel)
theorem dX12_drawn_60 : decode cX12_drawn 60 = .ok (.ldc2_w 394, 3) := by decide +kernel
theorem dX12_drawn_63 : decode cX12_drawn 63 = .ok (.lmul, 1) := by decide +kernel
theorem m_1769 : (Cond.constantLong "NoonValleyModel" 396 (1442695040888963407 : Int64)) ∈ BW := bw (tb8 89 (by decide +kernel)) (by decide +kernel)
theorem dX12_drawn_64 : decode cX12_drawn 64 = .ok (.ldc2_w 396, 3) := by decide +kernel
theorem dX12_drawn_67 : decode cX12_drawn 67 = .ok (.ladd, 1) := by decide +kernel
theorem dX12_drawn_68 : decode cX12_drawn 68 = .ok (.lstore 6, 2) := by decide +kernel
theorem dX12_drawn_70 : decode cX12_drawn 70 = .ok (.lload 6, 2) := by decide +kernel
theorem dX12_drawn_72 : decode cX12_drawn 72 = .ok (.bipush 33, 2) := by decide +kernel
theorem dX12_drawn_74 : decode cX12_drawn 74 = .ok (.lushr, 1) := by decide +kernel
theorem dX12_drawn_75 : decode cX12_drawn 75 = .ok (.iload_n 1, 1) := by decide +kernel
theorem dX12_drawn_76 : decode cX12_drawn 76 = .ok (.iconst 1, 1) := by decide +kernel
theorem dX12_drawn_77 : decode cX12_drawn 77 = .ok (.isub, 1) := by decide +kernel
theorem dX12_drawn_78 : decode cX12_drawn 78 = .ok (.i2l, 1) := by decide +kernel
theorem dX12_drawn_79 : decode cX12_drawn 79 = .ok (.lrem, 1) := by decide +kernel
theorem dX12_drawn_80 : decode cX12_drawn 80 = .ok (.l2i, 1) := by decide +kernel
theorem dX12_drawn_81 : decode cX12_drawn 81 = .ok (.istore 11, 2) := by decide +kernel
theorem dX12_drawn_83 : decode cX12_drawn 83 = .ok (.iload 11, 2) := by decide +kernel
theorem dX12_drawn_85 : decode cX12_drawn 85 = .ok (.iload 10, 2) := by decide +kernel
theorem dX12_drawn_87 : decode cX12_drawn 87 = .ok (.if_icmp .ge 8, 3) := by decide +kernel
theorem dX12_drawn_95 : decode cX12_drawn 95 = .ok (.iload 11, 2) := by decide +kernel
theorem dX12_drawn_97 : decode cX12_drawn 97 = .ok (.iconst 1, 1) := by decide +kernel
theorem dX12_drawn_98 : decode cX12_drawn 98 = .ok (.iadd, 1) := by decide +kernel
theorem dX12_drawn_99 : decode cX12_drawn 99 = .ok (.istore 12, 2) := by decide +kernel
theorem dX12_drawn_101 : decode cX12_drawn 101 = .ok (.iload 9, 2) := by decide +kernel
theorem dX12_drawn_103 : decode cX12_drawn 103 = .ok (.iload 5, 2) := by decide +kernel
theorem dX12_drawn_105 : decode cX12_drawn 105 = .ok (.iload 10, 2) := by decide +kernel
theorem dX12_drawn_107 : decode cX12_drawn 107 = .ok (.ishr, 1) := by decide +kernel
theorem dX12_drawn_108 : decode cX12_drawn 108 = .ok (.iconst 1, 1) := by decide +kernel
theorem dX12_drawn_109 : decode cX12_drawn 109 = .ok (.iand, 1) := by decide +kernel
theorem dX12_drawn_110 : decode cX12_drawn 110 = .ok (.iload 12, 2) := by decide +kernel
theorem dX12_drawn_112 : decode cX12_drawn 112 = .ok (.ishl, 1) := by decide +kernel
theorem dX12_drawn_113 : decode cX12_drawn 113 = .ok (.ior, 1) := by decide +kernel
theorem dX12_drawn_114 : decode cX12_drawn 114 = .ok (.istore 9, 2) := by decide +kernel
theorem dX12_drawn_116 : decode cX12_drawn 116 = .ok (.iinc 10 1, 3) := by decide +kernel
theorem dX12_drawn_119 : decode cX12_drawn 119 = .ok (.goto (-67), 3) := by decide +kernel
theorem dX12_drawn_90 : decode cX12_drawn 90 = .ok (.iload 11, 2) := by decide +kernel
theorem dX12_drawn_92 : decode cX12_drawn 92 = .ok (.goto 7, 3) := by decide +kernel
set_option maxHeartbeats 4000000 in
set_option maxRecDepth 100000 in
theorem C_X11_has (l : Launch) (g : GG) (a b : Int32) : MetI l g yX11_has cX11_has 2 (some .boolean) 0 0 0 [.int a, .int b] [] (fun r u => r = hasv a b ∧ u = []) := by
  refine MetI.of (own := RX11) rfl (by decide) (Nat.le_of_ble_eq_true rfl) ?_
  intro p e s m below meth c A ls args Q hQ X hr hin hW hl
  have hx := X.1
  have hb := X.2.1
  have hl : lv_has ls 2 [(0, .int a), (1, .int b)] := hl
  refine lv_iload_n (pc := 0) hx hb dX11_has_0 rfl (lv_at hl 0 rfl) ?_
  refine lv_iload_n (pc := 1) hx hb dX11_has_1 rfl (lv_at hl 1 rfl) ?_
  refine lv_ishr (pc := 2) hx hb dX11_has_2 ?_
  refine lv_iconst (v := 1) (pc := 3) hx hb dX11_has_3 (by decide) ?_
  refine lv_iand (pc := 4) hx hb dX11_has_4 ?_
  refine lv_if_eq (tgt := 12) (pc := 5) hx hb dX11_has_5 rfl (fun c1 => ?_) (fun c1 => ?_)
  · refine lv_iconst (v := 0) (pc := 12) hx hb dX11_has_12 (by decide) ?_
    exact e_z X hQ hr hW (u := []) rfl [] rfl rfl (⟨hasv_0 c1, rfl⟩) ⟨Nat.le_of_ble_eq_true rfl, Nat.le_of_ble_eq_true rfl⟩ dX11_has_13
  · refine lv_iconst (v := 1) (pc := 8) hx hb dX11_has_8 (by decide) ?_
    refine lv_goto (tgt := 13) (pc := 9) hx hb dX11_has_9 rfl ?_
    exact e_z X hQ hr hW (u := []) rfl [] rfl rfl (⟨hasv_1 c1, rfl⟩) ⟨Nat.le_of_ble_eq_true rfl, Nat.le_of_ble_eq_true rfl⟩ dX11_has_13

set_option maxHeartbeats 4000000 in
set_option maxRecDepth 100000 in
theorem C_X2_other (l : Launch) (g : GG) (a b : Int32) : MetI l g yX2_other cX2_other 2 (some .int) 0 0 0 [.int a, .int b] [] (fun r u => r = oth a b ∧ u = []) := by
  refine MetI.of (own := RX2) rfl (by decide) (Nat.le_of_ble_eq_true rfl) ?_
  intro p e s m below meth c A ls args Q hQ X hr hin hW hl
  have hx := X.1
  have hb := X.2.1
  have hl : lv_has ls 2 [(0, .int a), (1, .int b)] := hl
  refine lv_iload_n (pc := 0) hx hb dX2_other_0 rfl (lv_at hl 1 rfl) ?_
  refine lv_iload_n (pc := 1) hx hb dX2_other_1 rfl (lv_at hl 0 rfl) ?_
  refine lv_icmp_ge (tgt := 9) (pc := 2) hx hb dX2_other_2 rfl (fun c1 => ?_) (fun c1 => ?_)
  · refine lv_iload_n (pc := 9) hx hb dX2_other_9 rfl (lv_at hl 1 rfl) ?_
    refine lv_iconst (v := 1) (pc := 10) hx hb dX2_other_10 (by decide) ?_
    refine lv_iadd (pc := 11) hx hb dX2_other_11 ?_
    exact e_i X hQ hr hW (u := []) [] rfl rfl (⟨(if_neg (fun h9 => (Int32.not_le.mpr h9) c1)).symm, rfl⟩) ⟨Nat.le_of_ble_eq_true rfl, Nat.le_of_ble_eq_true rfl⟩ dX2_other_12
  · refine lv_iload_n (pc := 5) hx hb dX2_other_5 rfl (lv_at hl 1 rfl) ?_
    refine lv_goto (tgt := 12) (pc := 6) hx hb dX2_other_6 rfl ?_
    exact e_i X hQ hr hW (u := []) [] rfl rfl (⟨(if_pos (fa_of_nle c1)).symm, rfl⟩) ⟨Nat.le_of_ble_eq_true rfl, Nat.le_of_ble_eq_true rfl⟩ dX2_other_12

set_option maxHeartbeats 4000000 in
set_option maxRecDepth 100000 in
theorem C_X12_isIn (l : Launch) (g : GG) (v a b : Int32) : MetI l g yX12_isIn cX12_isIn 3 (some .boolean) 0 0 0 [.int v, .int a, .int b] [] (fun r u => r = inv3 v a b ∧ u = []) := by
  refine MetI.of (own := RX12) rfl (by decide) (Nat.le_of_ble_eq_true rfl) ?_
  intro p e s m below meth c A ls args Q hQ X hr hin hW hl
  have hx := X.1
  have hb := X.2.1
  have hl : lv_has ls 3 [(0, .int v), (1, .int a), (2, .int b)] := hl
  refine lv_iload_n (pc := 0) hx hb dX12_isIn_0 rfl (lv_at hl 0 rfl) ?_
  refine lv_iload_n (pc := 1) hx hb dX12_isIn_1 rfl (lv_at hl 1 rfl) ?_
  refine lv_icmp_lt (tgt := 14) (pc := 2) hx hb dX12_isIn_2 rfl (fun c1 => ?_) (fun c1 => ?_)
  · refine lv_iconst (v := 0) (pc := 14) hx hb dX12_isIn_14 (by decide) ?_
    exact e_z X hQ hr hW (u := []) rfl [] rfl rfl (⟨(if_neg (fun h9 => by first | exact h9.1 c1 | exact h9.2 c1)).symm, rfl⟩) ⟨Nat.le_of_ble_eq_true rfl, Nat.le_of_ble_eq_true rfl⟩ dX12_isIn_15
  · have hg := c1
    refine lv_iload_n (pc := 5) hx hb dX12_isIn_5 rfl (lv_at hl 0 rfl) ?_
    refine lv_iload_n (pc := 6) hx hb dX12_isIn_6 rfl (lv_at hl 2 rfl) ?_
    refine lv_icmp_gt (tgt := 14) (pc := 7) hx hb dX12_isIn_7 rfl (fun c2 => ?_) (fun c2 => ?_)
    · refine lv_iconst (v := 0) (pc := 14) hx hb dX12_isIn_14 (by decide) ?_
      exact e_z X hQ hr hW (u := []) rfl [] rfl rfl (⟨(if_neg (fun h9 => by first | exact h9.1 c2 | exact h9.2 c2)).symm, rfl⟩) ⟨Nat.le_of_ble_eq_true rfl, Nat.le_of_ble_eq_true rfl⟩ dX12_isIn_15
    · refine lv_iconst (v := 1) (pc := 10) hx hb dX12_isIn_10 (by decide) ?_
      refine lv_goto (tgt := 15) (pc := 11) hx hb dX12_isIn_11 rfl ?_
      exact e_z X hQ hr hW (u := []) rfl [] rfl rfl (⟨(if_pos ⟨hg, c2⟩).symm, rfl⟩) ⟨Nat.le_of_ble_eq_true rfl, Nat.le_of_ble_eq_true rfl⟩ dX12_isIn_15

set_option maxHeartbeats 4000000 in
set_option maxRecDepth 100000 in
theorem C_X2_drawHours (l : Launch) (g : GG) (n fi : Nat) (hn : 2 ≤ n) (hn7 : n ≤ 7) (hfi : fi < n) (seed : Int64) : MetI l g yX2_drawHours cX2_drawHours 13 (some .int) 1 0 0 [.int (nI n), .int (nI fi), .long seed] [] (fun r u => r = drH n 60 1 ((1 : Int32) <<< (nI fi &&& 31)) seed ∧ u = []) := by
  refine MetI.of (own := RX2) rfl (by decide) (Nat.le_of_ble_eq_true rfl) ?_
  intro p e s m below meth c A ls args Q hQ X hr hin hW hl
  have hx := X.1
  have hb := X.2.1
  have hl : lv_has ls 13 [(0, .int (nI n)), (1, .int (nI fi)), (2, .long seed)] := hl
  refine lv_iconst (v := 1) (pc := 0) hx hb dX2_drawHours_0 (by decide) ?_
  refine lv_iload_n (pc := 1) hx hb dX2_drawHours_1 rfl (lv_at hl 0 rfl) ?_
  refine lv_iconst (v := 1) (pc := 2) hx hb dX2_drawHours_2 (by decide) ?_
  refine lv_isub (pc := 3) hx hb dX2_drawHours_3 ?_
  refine lv_topi (fun v1 ev1 => ?_)
  obtain rfl : v1 = nI (n - 1) := ev1.trans (pk_sub (a := n) (b := 1) (by omega))
  refine va_mmax (pc := 4) hx hb (X.2.2.1.trans hl.1.symm) X.2.2.2.1 (X.2.2.2.2.1 _ mm_X2_4) (X.2.2.2.2.1 _ mms_max) (X.2.2.2.2.1 _ m_19) (X.2.2.2.2.1 _ mmc_max) (Nat.le_of_ble_eq_true rfl) (Nat.le_of_ble_eq_true rfl) (Nat.le_of_ble_eq_true rfl) (Nat.le_of_ble_eq_true rfl) dX2_drawHours_4 ?_
  refine lv_topi (fun v2 ev2 => ?_)
  obtain rfl : v2 = nI (n - 1) := ev2.trans (mx1 n (by omega) hn)
  refine lv_istore (lv' := [(4, .int (nI (n - 1))), (0, .int (nI n)), (1, .int (nI fi)), (2, .long seed)]) (pc := 7) hx hb dX2_drawHours_7 hl (by decide) rfl (fun ls hl => ?_)
  refine lv_iconst (v := 1) (pc := 9) hx hb dX2_drawHours_9 (by decide) ?_
  refine lv_iload_n (pc := 10) hx hb dX2_drawHours_10 rfl (lv_at hl 1 rfl) ?_
  refine lv_ishl (pc := 11) hx hb dX2_drawHours_11 ?_
  refine lv_topi (fun v3 ev3 => ?_)
  obtain rfl : v3 = (1 : Int32) <<< (nI n &&& 31) := ev3.trans (rfl)
  refine lv_iconst (v := 1) (pc := 12) hx hb dX2_drawHours_12 (by decide) ?_
  refine lv_isub (pc := 13) hx hb dX2_drawHours_13 ?_
  refine lv_topi (fun v4 ev4 => ?_)
  obtain rfl : v4 = evr n := ev4.trans (rfl)
  refine lv_istore (lv' := [(5, .int (evr n)), (4, .int (nI (n - 1))), (0, .int (nI n)), (1, .int (nI fi)), (2, .long seed)]) (pc := 14) hx hb dX2_drawHours_14 hl (by decide) rfl (fun ls hl => ?_)
  refine lv_iconst (v := 1) (pc := 16) hx hb dX2_drawHours_16 (by decide) ?_
  refine lv_iload_n (pc := 17) hx hb dX2_drawHours_17 rfl (lv_at hl 3 rfl) ?_
  refine lv_ishl (pc := 18) hx hb dX2_drawHours_18 ?_
  refine lv_topi (fun v5 ev5 => ?_)
  obtain rfl : v5 = (1 : Int32) <<< (nI fi &&& 31) := ev5.trans (rfl)
  refine lv_istore (lv' := [(6, .int ((1 : Int32) <<< (nI fi &&& 31))), (5, .int (evr n)), (4, .int (nI (n - 1))), (0, .int (nI n)), (1, .int (nI fi)), (2, .long seed)]) (pc := 19) hx hb dX2_drawHours_19 hl (by decide) rfl (fun ls hl => ?_)
  refine lv_lload_n (pc := 21) hx hb dX2_drawHours_21 rfl (lv_at hl 5 rfl) ?_
  refine lv_lstore (lv' := [(7, .long seed), (6, .int ((1 : Int32) <<< (nI fi &&& 31))), (5, .int (evr n)), (4, .int (nI (n - 1))), (0, .int (nI n)), (1, .int (nI fi)), (2, .long seed)]) (pc := 22) hx hb dX2_drawHours_22 hl (by decide) rfl (fun ls hl => ?_)
  refine lv_iconst (v := 1) (pc := 24) hx hb dX2_drawHours_24 (by decide) ?_
  refine lv_istore (lv' := [(9, .int 1), (7, .long seed), (6, .int ((1 : Int32) <<< (nI fi &&& 31))), (5, .int (evr n)), (4, .int (nI (n - 1))), (0, .int (nI n)), (1, .int (nI fi)), (2, .long seed)]) (pc := 25) hx hb dX2_drawHours_25 hl (by decide) rfl (fun ls hl => ?_)
  have loop1 : ∀ (fu : Nat) (i : Nat) (kn : Int32) (x : Int64), (61 ≤ fu + i) → (i ≤ 60) → (drH n 60 1 ((1 : Int32) <<< (nI fi &&& 31)) seed = drH n (60 - i) (nI (i + 1)) kn x) → ∀ (H : Heap) (locs : List Loc) (ls : Array Slot), WD g A s H locs [] → lv_has ls 13 [(0, .int (nI n)), (4, .int (nI (n - 1))), (5, .int (evr n)), (6, .int kn), (7, .long x), (9, .int (nI (i + 1)))] → W p l e (RM 1 0 0) s m args below meth c H locs 0 0 Q (F0 m 27 ls []) := by
    intro fu
    induction fu with
    | zero =>
      intro i kn x hm hi hres
      exact absurd hm (by omega)
    | succ fu ih1 =>
      intro i kn x hm hi hres H locs ls hW hl
      refine lv_iload (pc := 27) hx hb dX2_drawHours_27 (lv_at hl 5 rfl) ?_
      refine lv_bipush (v := 60) (pc := 29) hx hb dX2_drawHours_29 (by decide) ?_
      refine lv_icmp_gt (tgt := 123) (pc := 31) hx hb dX2_drawHours_31 rfl (fun c6 => ?_) (fun c6 => ?_)
      · refine lv_iconst (v := (-1)) (pc := 123) hx hb dX2_drawHours_123 (by decide) ?_
        exact e_i X hQ hr hW (u := []) [] rfl rfl (⟨by rw [hres, show 60 - i = 0 by have := lt_t (i := 60) (k := i + 1) (by decide) (by omega) c6; omega, drH], rfl⟩) ⟨Nat.le_of_ble_eq_true rfl, Nat.le_of_ble_eq_true rfl⟩ dX2_drawHours_124
      · have hlt : i + 1 ≤ 60 := by have := lt_f (i := 60) (k := i + 1) (by decide) (by omega) c6; omega
        refine lv_iconst (v := 0) (pc := 34) hx hb dX2_drawHours_34 (by decide) ?_
        refine lv_istore (lv' := [(10, .int 0), (0, .int (nI n)), (4, .int (nI (n - 1))), (5, .int (evr n)), (6, .int kn), (7, .long x), (9, .int (nI (i + 1)))]) (pc := 35) hx hb dX2_drawHours_35 hl (by decide) rfl (fun ls hl => ?_)
        refine lv_iconst (v := 0) (pc := 37) hx hb dX2_drawHours_37 (by decide) ?_
        refine lv_istore (lv' := [(11, .int 0), (10, .int 0), (0, .int (nI n)), (4, .int (nI (n - 1))), (5, .int (evr n)), (6, .int kn), (7, .long x), (9, .int (nI (i + 1)))]) (pc := 38) hx hb dX2_drawHours_38 hl (by decide) rfl (fun ls hl => ?_)
        have loop2 : ∀ (fu : Nat) (o : Nat) (ca : Int32) (y : Int64), (n + 1 ≤ fu + o) → (o ≤ n) → (drO n kn o x = (ca, y)) → ∀ (H : Heap) (locs : List Loc) (ls : Array Slot), WD g A s H locs [] → lv_has ls 13 [(0, .int (nI n)), (4, .int (nI (n - 1))), (5, .int (evr n)), (6, .int kn), (7, .long y), (9, .int (nI (i + 1))), (10, .int ca), (11, .int (nI o))] → W p l e (RM 1 0 0) s m args below meth c H locs 0 0 Q (F0 m 40 ls []) := by
          intro fu
          induction fu with
          | zero =>
            intro o ca y hm ho hdr
            exact absurd hm (by omega)
          | succ fu ih2 =>
            intro o ca y hm ho hdr H locs ls hW hl
            refine lv_iload (pc := 40) hx hb dX2_drawHours_40 (lv_at hl 7 rfl) ?_
            refine lv_iload_n (pc := 42) hx hb dX2_drawHours_42 rfl (lv_at hl 0 rfl) ?_
            refine lv_icmp_ge (tgt := 100) (pc := 43) hx hb dX2_drawHours_43 rfl (fun c7 => ?_) (fun c7 => ?_)
            · have hon : o = n := by have := ge_t (k := n) (by omega) (by omega) c7; omega
              rw [hon] at hdr
              refine lv_iload (pc := 100) hx hb dX2_drawHours_100 (lv_at hl 3 rfl) ?_
              refine lv_iload (pc := 102) hx hb dX2_drawHours_102 (lv_at hl 6 rfl) ?_
              refine lv_ior (pc := 104) hx hb dX2_drawHours_104 ?_
              refine lv_topi (fun v8 ev8 => ?_)
              obtain rfl : v8 = kn ||| ca := ev8.trans (rfl)
              refine lv_istore (lv' := [(6, .int (kn ||| ca)), (0, .int (nI n)), (4, .int (nI (n - 1))), (5, .int (evr n)), (7, .long y), (9, .int (nI (i + 1))), (10, .int ca), (11, .int (nI o))]) (pc := 105) hx hb dX2_drawHours_105 hl (by decide) rfl (fun ls hl => ?_)
              refine lv_iload (pc := 107) hx hb dX2_drawHours_107 (lv_at hl 0 rfl) ?_
              refine lv_iload (pc := 109) hx hb dX2_drawHours_109 (lv_at hl 3 rfl) ?_
              refine lv_icmp_ne (tgt := 117) (pc := 111) hx hb dX2_drawHours_111 rfl (fun c9 => ?_) (fun c9 => ?_)
              · have hre2 : drH n 60 1 ((1 : Int32) <<< (nI fi &&& 31)) seed = drH n (60 - (i + 1)) (nI (i + 1 + 1)) (kn ||| ca) y := by
                  rw [hres, show 60 - i = (60 - (i + 1)) + 1 by omega, drH, hdr, if_neg c9, nI_1]
                refine lv_iinc (v := nI (i + 1 + 1)) (lv' := [(9, .int (nI (i + 1 + 1))), (6, .int (kn ||| ca)), (0, .int (nI n)), (4, .int (nI (n - 1))), (5, .int (evr n)), (7, .long y), (10, .int ca), (11, .int (nI o))]) (pc := 117) hx hb dX2_drawHours_117 hl (k := 5) rfl (nI_1 (i + 1)) (by decide) rfl (fun ls hl => ?_)
                refine lv_goto (tgt := 27) (pc := 120) hx hb dX2_drawHours_120 rfl ?_
                exact ih1 (i + 1) (kn ||| ca) y (by omega) (by omega) hre2 _ _ _ hW (lv_sub hl [2, 3, 4, 1, 5, 0] rfl)
              · refine lv_iload (pc := 114) hx hb dX2_drawHours_114 (lv_at hl 5 rfl) ?_
                exact e_i X hQ hr hW (u := []) [] rfl rfl (⟨by rw [hres, show 60 - i = (60 - (i + 1)) + 1 by omega, drH, hdr, if_pos c9], rfl⟩) ⟨Nat.le_of_ble_eq_true rfl, Nat.le_of_ble_eq_true rfl⟩ dX2_drawHours_116
            · have hlo : o < n := ge_f (by omega) (by omega) c7
              refine lv_lload (pc := 46) hx hb dX2_drawHours_46 (lv_at hl 4 rfl) ?_
              refine lv_ldc2 (pc := 48) hx hb X.2.2.2.1 (X.2.2.2.2.1 _ m_1102) dX2_drawHours_48 ?_
              refine lv_lmul (pc := 51) hx hb dX2_drawHours_51 ?_
              refine lv_ldc2 (pc := 52) hx hb X.2.2.2.1 (X.2.2.2.2.1 _ m_1103) dX2_drawHours_52 ?_
              refine lv_ladd (pc := 55) hx hb dX2_drawHours_55 ?_
              refine lv_topl (fun v10 ev10 => ?_)
              obtain rfl : v10 = lcg y := ev10.trans (rfl)
              refine lv_lstore (lv' := [(7, .long (lcg y)), (0, .int (nI n)), (4, .int (nI (n - 1))), (5, .int (evr n)), (6, .int kn), (9, .int (nI (i + 1))), (10, .int ca), (11, .int (nI o))]) (pc := 56) hx hb dX2_drawHours_56 hl (by decide) rfl (fun ls hl => ?_)
              refine lv_lload (pc := 58) hx hb dX2_drawHours_58 (lv_at hl 0 rfl) ?_
              refine lv_bipush (v := 33) (pc := 60) hx hb dX2_drawHours_60 (by decide) ?_
              refine lv_lushr (v := _) (pc := 62) hx hb dX2_drawHours_62 rfl ?_
              refine lv_topl (fun v11 ev11 => ?_)
              obtain rfl : v11 = shr33 (lcg y) := ev11.trans (rfl)
              refine lv_iload (pc := 63) hx hb dX2_drawHours_63 (lv_at hl 2 rfl) ?_
              refine lv_i2l (v := lN (n - 1)) (pc := 65) hx hb dX2_drawHours_65 (nI_l (by omega)) ?_
              refine lv_lrem (pc := 66) hx hb dX2_drawHours_66 (nz1 hn hn7) ?_
              refine lv_topl (fun v12 ev12 => ?_)
              obtain rfl : v12 = plcL n (lcg y) := ev12.trans (rfl)
              refine lv_l2i (v := plc n (lcg y)) (pc := 67) hx hb dX2_drawHours_67 (rfl) ?_
              refine lv_istore (lv' := [(12, .int (plc n (lcg y))), (7, .long (lcg y)), (0, .int (nI n)), (4, .int (nI (n - 1))), (5, .int (evr n)), (6, .int kn), (9, .int (nI (i + 1))), (10, .int ca), (11, .int (nI o))]) (pc := 68) hx hb dX2_drawHours_68 hl (by decide) rfl (fun ls hl => ?_)
              refine lv_iload (pc := 70) hx hb dX2_drawHours_70 (lv_at hl 5 rfl) ?_
              refine lv_iload (pc := 72) hx hb dX2_drawHours_72 (lv_at hl 8 rfl) ?_
              refine c_SNi (pc := 74) (As := [.int kn, .int (nI o)]) (rest := []) (wr := []) X hW (C_X11_has l g kn (nI o)) vX2_51 [] [] rfl rfl rfl rfl rfl rfl hl.1 rfl (Nat.le_of_ble_eq_true rfl) ⟨Nat.le_of_ble_eq_true rfl, Nat.le_of_ble_eq_true rfl⟩ ⟨Nat.le_of_ble_eq_true rfl, Nat.le_of_ble_eq_true rfl⟩ dX2_drawHours_74 (fun r13 u9 H locs hq hW => ?_)
              obtain ⟨rfl, rfl⟩ := hq
              have hW : WD g A s _ _ [] := hW
              refine lv_if_eq (tgt := 94) (pc := 77) hx hb dX2_drawHours_77 rfl (fun c14 => ?_) (fun c14 => ?_)
              · have hh := c14
                refine lv_iinc (v := nI (o + 1)) (lv' := [(11, .int (nI (o + 1))), (12, .int (plc n (lcg y))), (7, .long (lcg y)), (0, .int (nI n)), (4, .int (nI (n - 1))), (5, .int (evr n)), (6, .int kn), (9, .int (nI (i + 1))), (10, .int ca)]) (pc := 94) hx hb dX2_drawHours_94 hl (k := 8) rfl (nI_1 o) (by decide) rfl (fun ls hl => ?_)
                refine lv_goto (tgt := 40) (pc := 97) hx hb dX2_drawHours_97 rfl ?_
                exact ih2 (o + 1) ca (lcg y) (by omega) (by omega) (by rw [drO_1 hdr, if_pos hh]) _ _ _ hW (lv_sub hl [3, 4, 5, 6, 2, 7, 8, 0] rfl)
              · have hh := c14
                refine lv_iload (pc := 80) hx hb dX2_drawHours_80 (lv_at hl 7 rfl) ?_
                refine lv_iconst (v := 1) (pc := 82) hx hb dX2_drawHours_82 (by decide) ?_
                refine lv_iload (pc := 83) hx hb dX2_drawHours_83 (lv_at hl 8 rfl) ?_
                refine lv_iload (pc := 85) hx hb dX2_drawHours_85 (lv_at hl 0 rfl) ?_
                refine c_Si (pc := 87) (As := [.int (nI o), .int (plc n (lcg y))]) (rest := [.int 1, .int ca]) (wr := []) X hW (C_X2_other l g (nI o) (plc n (lcg y))) vX2_38 [] [] rfl rfl rfl rfl rfl rfl hl.1 rfl (Nat.le_of_ble_eq_true rfl) ⟨Nat.le_of_ble_eq_true rfl, Nat.le_of_ble_eq_true rfl⟩ ⟨Nat.le_of_ble_eq_true rfl, Nat.le_of_ble_eq_true rfl⟩ dX2_drawHours_87 (fun r15 u9 H locs hq hW => ?_)
                obtain ⟨rfl, rfl⟩ := hq
                have hW : WD g A s _ _ [] := hW
                refine lv_ishl (pc := 90) hx hb dX2_drawHours_90 ?_
                refine lv_ior (pc := 91) hx hb dX2_drawHours_91 ?_
                refine lv_topi (fun v16 ev16 => ?_)
                obtain rfl : v16 = ca ||| ((1 : Int32) <<< (oth (nI o) (plc n (lcg y)) &&& 31)) := ev16.trans (rfl)
                refine lv_istore (lv' := [(10, .int (ca ||| ((1 : Int32) <<< (oth (nI o) (plc n (lcg y)) &&& 31)))), (12, .int (plc n (lcg y))), (7, .long (lcg y)), (0, .int (nI n)), (4, .int (nI (n - 1))), (5, .int (evr n)), (6, .int kn), (9, .int (nI (i + 1))), (11, .int (nI o))]) (pc := 92) hx hb dX2_drawHours_92 hl (by decide) rfl (fun ls hl => ?_)
                refine lv_iinc (v := nI (o + 1)) (lv' := [(11, .int (nI (o + 1))), (10, .int (ca ||| ((1 : Int32) <<< (oth (nI o) (plc n (lcg y)) &&& 31)))), (12, .int (plc n (lcg y))), (7, .long (lcg y)), (0, .int (nI n)), (4, .int (nI (n - 1))), (5, .int (evr n)), (6, .int kn), (9, .int (nI (i + 1)))]) (pc := 94) hx hb dX2_drawHours_94 hl (k := 8) rfl (nI_1 o) (by decide) rfl (fun ls hl => ?_)
                refine lv_goto (tgt := 40) (pc := 97) hx hb dX2_drawHours_97 rfl ?_
                exact ih2 (o + 1) (ca ||| ((1 : Int32) <<< (oth (nI o) (plc n (lcg y)) &&& 31))) (lcg y) (by omega) (by omega) (by rw [drO_1 hdr, if_neg hh]) _ _ _ hW (lv_sub hl [4, 5, 6, 7, 3, 8, 1, 0] rfl)
        exact loop2 (n + 1) 0 0 x (by omega) (by omega) rfl _ _ _ hW (lv_sub hl [2, 3, 4, 5, 6, 7, 1, 0] rfl)
  exact loop1 61 0 ((1 : Int32) <<< (nI fi &&& 31)) seed (by decide) (by decide) rfl _ _ _ hW (lv_sub hl [5, 4, 3, 2, 1, 0] rfl)

set_option maxHeartbeats 4000000 in
set_option maxRecDepth 100000 in
theorem C_X11_drawn (l : Launch) (g : GG) (h0 a0 a1 a2 a3 a4 a5 a6 a7 a8 a9 a10 : Nat) (p0 p1 : Int32) (p2 : Int64) : MetI l g yX11_drawn cX11_drawn 5 (some .int) 2 0 0 [.ref h0, .int p0, .int p1, .long p2] [(h0, .inr (11, [.ref a0, .ref a1, .ref a2, .ref a3, .ref a4, .ref a5, .ref a6, .ref a7, .ref a8, .ref a9, .ref a10, .int 0, .int 0, .int 0]))] (fun r u => r = dv p0 p1 p2 ∧ u = []) := by
  refine MetI.of (own := RX11) rfl (by decide) (Nat.le_of_ble_eq_true rfl) ?_
  intro p e s m below meth c A ls args Q hQ X hr hin hW hl
  have hx := X.1
  have hb := X.2.1
  have hl : lv_has ls 5 [(0, .ref h0), (1, .int p0), (2, .int p1), (3, .long p2)] := hl
  refine lv_iload_n (pc := 0) hx hb dX11_drawn_0 rfl (lv_at hl 1 rfl) ?_
  refine lv_iconst (v := 2) (pc := 1) hx hb dX11_drawn_1 (by decide) ?_
  refine lv_icmp_lt (tgt := 20) (pc := 2) hx hb dX11_drawn_2 rfl (fun c1 => ?_) (fun c1 => ?_)
  · refine lv_iconst (v := (-1)) (pc := 20) hx hb dX11_drawn_20 (by decide) ?_
    exact e_i X hQ hr hW (u := []) [] rfl rfl (⟨dv_no (fun h9 => by obtain ⟨h1, h2, h3, h4⟩ := h9; have h8 := c1; (first | rw [fa_lt] at h8 | rw [fa_le] at h8); (try simp only [i0, i1, i2, i7] at h8); omega), rfl⟩) ⟨Nat.le_of_ble_eq_true rfl, Nat.le_of_ble_eq_true rfl⟩ dX11_drawn_21
  · refine lv_iload_n (pc := 5) hx hb dX11_drawn_5 rfl (lv_at hl 1 rfl) ?_
    refine lv_bipush (v := 7) (pc := 6) hx hb dX11_drawn_6 (by decide) ?_
    refine lv_icmp_gt (tgt := 20) (pc := 8) hx hb dX11_drawn_8 rfl (fun c2 => ?_) (fun c2 => ?_)
    · refine lv_iconst (v := (-1)) (pc := 20) hx hb dX11_drawn_20 (by decide) ?_
      exact e_i X hQ hr hW (u := []) [] rfl rfl (⟨dv_no (fun h9 => by obtain ⟨h1, h2, h3, h4⟩ := h9; have h8 := c2; (first | rw [fa_lt] at h8 | rw [fa_le] at h8); (try simp only [i0, i1, i2, i7] at h8); omega), rfl⟩) ⟨Nat.le_of_ble_eq_true rfl, Nat.le_of_ble_eq_true rfl⟩ dX11_drawn_21
    · refine lv_iload_n (pc := 11) hx hb dX11_drawn_11 rfl (lv_at hl 2 rfl) ?_
      refine lv_if_lt (tgt := 20) (pc := 12) hx hb dX11_drawn_12 rfl (fun c3 => ?_) (fun c3 => ?_)
      · refine lv_iconst (v := (-1)) (pc := 20) hx hb dX11_drawn_20 (by decide) ?_
        exact e_i X hQ hr hW (u := []) [] rfl rfl (⟨dv_no (fun h9 => by obtain ⟨h1, h2, h3, h4⟩ := h9; have h8 := c3; (first | rw [fa_lt] at h8 | rw [fa_le] at h8); (try simp only [i0, i1, i2, i7] at h8); omega), rfl⟩) ⟨Nat.le_of_ble_eq_true rfl, Nat.le_of_ble_eq_true rfl⟩ dX11_drawn_21
      · refine lv_iload_n (pc := 15) hx hb dX11_drawn_15 rfl (lv_at hl 2 rfl) ?_
        refine lv_iload_n (pc := 16) hx hb dX11_drawn_16 rfl (lv_at hl 1 rfl) ?_
        refine lv_icmp_lt (tgt := 22) (pc := 17) hx hb dX11_drawn_17 rfl (fun c4 => ?_) (fun c4 => ?_)
        · have hok : dOk p0 p1 := by
            rw [fa_lt, i2] at c1; rw [fa_lt, i7] at c2; rw [fa_lt, i0] at c3; rw [fa_lt] at c4
            exact ⟨by omega, by omega, by omega, by omega⟩
          obtain ⟨n, fi, hn, hn7, hfi, rfl, rfl, hdv⟩ := dv_yes p2 hok
          refine lv_iload_n (pc := 22) hx hb dX11_drawn_22 rfl (lv_at hl 1 rfl) ?_
          refine lv_iload_n (pc := 23) hx hb dX11_drawn_23 rfl (lv_at hl 2 rfl) ?_
          refine lv_lload_n (pc := 24) hx hb dX11_drawn_24 rfl (lv_at hl 3 rfl) ?_
          refine c_Si (pc := 25) (As := [.int (nI n), .int (nI fi), .long p2]) (rest := []) (wr := [(h0, .inr (11, [.ref a0, .ref a1, .ref a2, .ref a3, .ref a4, .ref a5, .ref a6, .ref a7, .ref a8, .ref a9, .ref a10, .int 0, .int 0, .int 0]))]) X hW (C_X2_drawHours l g n fi hn hn7 hfi p2) vX11_304 [] [0] rfl rfl rfl rfl rfl rfl hl.1 rfl (Nat.le_of_ble_eq_true rfl) ⟨Nat.le_of_ble_eq_true rfl, Nat.le_of_ble_eq_true rfl⟩ ⟨Nat.le_of_ble_eq_true rfl, Nat.le_of_ble_eq_true rfl⟩ dX11_drawn_25 (fun r5 u9 H locs hq hW => ?_)
          obtain ⟨rfl, rfl⟩ := hq
          have hW : WD g A s _ _ [(h0, .inr (11, [.ref a0, .ref a1, .ref a2, .ref a3, .ref a4, .ref a5, .ref a6, .ref a7, .ref a8, .ref a9, .ref a10, .int 0, .int 0, .int 0]))] := hW
          exact e_i X hQ hr hW (u := []) [] rfl rfl (⟨hdv.symm, rfl⟩) ⟨Nat.le_of_ble_eq_true rfl, Nat.le_of_ble_eq_true rfl⟩ dX11_drawn_28
        · refine lv_iconst (v := (-1)) (pc := 20) hx hb dX11_drawn_20 (by decide) ?_
          exact e_i X hQ hr hW (u := []) [] rfl rfl (⟨dv_no (fun h9 => by obtain ⟨h1, h2, h3, h4⟩ := h9; have h8 := c4; (first | rw [fa_lt] at h8 | rw [fa_le] at h8); (try simp only [i0, i1, i2, i7] at h8); omega), rfl⟩) ⟨Nat.le_of_ble_eq_true rfl, Nat.le_of_ble_eq_true rfl⟩ dX11_drawn_21

set_option maxHeartbeats 4000000 in
set_option maxRecDepth 100000 in
theorem C_X12_drawn (l : Launch) (g : GG) (h0 b1 b6 b7 b8 b9 b10 b11 b12 b13 b14 b15 b16 b17 b21 b22 b23 b24 b25 b26 b28 b29 b30 b31 b32 b33 b34 b35 b36 b46 b47 b48 b49 b50 b51 b52 b53 b54 b55 b56 b57 b58 b59 b60 b61 b62 b63 : Nat) (p0 p1 : Int32) (p2 : Int64) : MetI l g yX12_drawn cX12_drawn 13 (some .int) 1 0 0 [.ref h0, .int p0, .int p1, .long p2] [(h0, .inr (12, [.int 0, .ref b1, .int 0, .int 0, .int 0, .int 0, .ref b6, .ref b7, .ref b8, .ref b9, .ref b10, .ref b11, .ref b12, .ref b13, .ref b14, .ref b15, .ref b16, .ref b17, .int 0, .int (-1), .int (-1), .ref b21, .ref b22, .ref b23, .ref b24, .ref b25, .ref b26, .int 0, .ref b28, .ref b29, .ref b30, .ref b31, .ref b32, .ref b33, .ref b34, .ref b35, .ref b36, .int 0, .int 0, .int 0, .int 0, .int 0, .int 0, .int 0, .int 0, .int 0, .ref b46, .ref b47, .ref b48, .ref b49, .ref b50, .ref b51, .ref b52, .ref b53, .ref b54, .ref b55, .ref b56, .ref b57, .ref b58, .ref b59, .ref b60, .ref b61, .ref b62, .ref b63]))] (fun r u => r = dv p0 p1 p2 ∧ u = []) := by
  refine MetI.of (own := RX12) rfl (by decide) (Nat.le_of_ble_eq_true rfl) ?_
  intro p e s m below meth c A ls args Q hQ X hr hin hW hl
  have hx := X.1
  have hb := X.2.1
  have hl : lv_has ls 13 [(0, .ref h0), (1, .int p0), (2, .int p1), (3, .long p2)] := hl
  refine lv_aload_n (pc := 0) hx hb dX12_drawn_0 rfl (lv_at hl 0 rfl) ?_
  refine lv_iconst (v := 0) (pc := 1) hx hb dX12_drawn_1 (by decide) ?_
  refine r_put (ws' := [(h0, .inr (12, [.int 0, .ref b1, .int 0, .int 0, .int 0, .int 0, .ref b6, .ref b7, .ref b8, .ref b9, .ref b10, .ref b11, .ref b12, .ref b13, .ref b14, .ref b15, .ref b16, .ref b17, .int 0, .int (-1), .int (-1), .ref b21, .ref b22, .ref b23, .ref b24, .ref b25, .ref b26, .int 0, .ref b28, .ref b29, .ref b30, .ref b31, .ref b32, .ref b33, .ref b34, .ref b35, .ref b36, .int 0, .int 0, .int 0, .int 0, .int 0, .int 0, .int 0, .int 0, .int 0, .ref b46, .ref b47, .ref b48, .ref b49, .ref b50, .ref b51, .ref b52, .ref b53, .ref b54, .ref b55, .ref b56, .ref b57, .ref b58, .ref b59, .ref b60, .ref b61, .ref b62, .ref b63]))]) X hW 0 ciX12 0 rfl (by decide) m_1231 rfl rfl rfl rfl (Nat.le_of_ble_eq_true rfl) rfl dX12_drawn_2 (fun H locs hW => ?_)
  refine lv_iload_n (pc := 5) hx hb dX12_drawn_5 rfl (lv_at hl 1 rfl) ?_
  refine lv_iconst (v := 2) (pc := 6) hx hb dX12_drawn_6 (by decide) ?_
  refine lv_bipush (v := 7) (pc := 7) hx hb dX12_drawn_7 (by decide) ?_
  refine c_Si (pc := 9) (As := [.int p0, .int 2, .int 7]) (rest := []) (wr := [(h0, .inr (12, [.int 0, .ref b1, .int 0, .int 0, .int 0, .int 0, .ref b6, .ref b7, .ref b8, .ref b9, .ref b10, .ref b11, .ref b12, .ref b13, .ref b14, .ref b15, .ref b16, .ref b17, .int 0, .int (-1), .int (-1), .ref b21, .ref b22, .ref b23, .ref b24, .ref b25, .ref b26, .int 0, .ref b28, .ref b29, .ref b30, .ref b31, .ref b32, .ref b33, .ref b34, .ref b35, .ref b36, .int 0, .int 0, .int 0, .int 0, .int 0, .int 0, .int 0, .int 0, .int 0, .ref b46, .ref b47, .ref b48, .ref b49, .ref b50, .ref b51, .ref b52, .ref b53, .ref b54, .ref b55, .ref b56, .ref b57, .ref b58, .ref b59, .ref b60, .ref b61, .ref b62, .ref b63]))]) X hW (C_X12_isIn l g p0 2 7) vX12_198 [] [0] rfl rfl rfl rfl rfl rfl hl.1 rfl (Nat.le_of_ble_eq_true rfl) ⟨Nat.le_of_ble_eq_true rfl, Nat.le_of_ble_eq_true rfl⟩ ⟨Nat.le_of_ble_eq_true rfl, Nat.le_of_ble_eq_true rfl⟩ dX12_drawn_9 (fun r1 u9 H locs hq hW => ?_)
  obtain ⟨rfl, rfl⟩ := hq
  have hW : WD g A s _ _ [(h0, .inr (12, [.int 0, .ref b1, .int 0, .int 0, .int 0, .int 0, .ref b6, .ref b7, .ref b8, .ref b9, .ref b10, .ref b11, .ref b12, .ref b13, .ref b14, .ref b15, .ref b16, .ref b17, .int 0, .int (-1), .int (-1), .ref b21, .ref b22, .ref b23, .ref b24, .ref b25, .ref b26, .int 0, .ref b28, .ref b29, .ref b30, .ref b31, .ref b32, .ref b33, .ref b34, .ref b35, .ref b36, .int 0, .int 0, .int 0, .int 0, .int 0, .int 0, .int 0, .int 0, .int 0, .ref b46, .ref b47, .ref b48, .ref b49, .ref b50, .ref b51, .ref b52, .ref b53, .ref b54, .ref b55, .ref b56, .ref b57, .ref b58, .ref b59, .ref b60, .ref b61, .ref b62, .ref b63]))] := hW
  refine lv_if_eq (tgt := 26) (pc := 12) hx hb dX12_drawn_12 rfl (fun c2 => ?_) (fun c2 => ?_)
  · refine lv_iconst (v := (-1)) (pc := 26) hx hb dX12_drawn_26 (by decide) ?_
    exact e_i X hQ hr hW (u := []) [] rfl rfl (⟨dv_no (fun h9 => by obtain ⟨h1, h2, h3, h4⟩ := h9; rcases inv3_0 c2 with h8 | h8 <;> (rw [fa_lt] at h8; try rw [fb_subI (by rw [i1]; omega) (by rw [i1]; omega)] at h8) <;> (try simp only [i0, i1, i2, i7] at h8) <;> omega), rfl⟩) ⟨Nat.le_of_ble_eq_true rfl, Nat.le_of_ble_eq_true rfl⟩ dX12_drawn_27
  · refine lv_iload_n (pc := 15) hx hb dX12_drawn_15 rfl (lv_at hl 2 rfl) ?_
    refine lv_iconst (v := 0) (pc := 16) hx hb dX12_drawn_16 (by decide) ?_
    refine lv_iload_n (pc := 17) hx hb dX12_drawn_17 rfl (lv_at hl 1 rfl) ?_
    refine lv_iconst (v := 1) (pc := 18) hx hb dX12_drawn_18 (by decide) ?_
    refine lv_isub (pc := 19) hx hb dX12_drawn_19 ?_
    refine c_Si (pc := 20) (As := [.int p1, .int 0, .int (p0 - 1)]) (rest := []) (wr := [(h0, .inr (12, [.int 0, .ref b1, .int 0, .int 0, .int 0, .int 0, .ref b6, .ref b7, .ref b8, .ref b9, .ref b10, .ref b11, .ref b12, .ref b13, .ref b14, .ref b15, .ref b16, .ref b17, .int 0, .int (-1), .int (-1), .ref b21, .ref b22, .ref b23, .ref b24, .ref b25, .ref b26, .int 0, .ref b28, .ref b29, .ref b30, .ref b31, .ref b32, .ref b33, .ref b34, .ref b35, .ref b36, .int 0, .int 0, .int 0, .int 0, .int 0, .int 0, .int 0, .int 0, .int 0, .ref b46, .ref b47, .ref b48, .ref b49, .ref b50, .ref b51, .ref b52, .ref b53, .ref b54, .ref b55, .ref b56, .ref b57, .ref b58, .ref b59, .ref b60, .ref b61, .ref b62, .ref b63]))]) X hW (C_X12_isIn l g p1 0 (p0 - 1)) vX12_198 [] [0] rfl rfl rfl rfl rfl rfl hl.1 rfl (Nat.le_of_ble_eq_true rfl) ⟨Nat.le_of_ble_eq_true rfl, Nat.le_of_ble_eq_true rfl⟩ ⟨Nat.le_of_ble_eq_true rfl, Nat.le_of_ble_eq_true rfl⟩ dX12_drawn_20 (fun r3 u9 H locs hq hW => ?_)
    obtain ⟨rfl, rfl⟩ := hq
    have hW : WD g A s _ _ [(h0, .inr (12, [.int 0, .ref b1, .int 0, .int 0, .int 0, .int 0, .ref b6, .ref b7, .ref b8, .ref b9, .ref b10, .ref b11, .ref b12, .ref b13, .ref b14, .ref b15, .ref b16, .ref b17, .int 0, .int (-1), .int (-1), .ref b21, .ref b22, .ref b23, .ref b24, .ref b25, .ref b26, .int 0, .ref b28, .ref b29, .ref b30, .ref b31, .ref b32, .ref b33, .ref b34, .ref b35, .ref b36, .int 0, .int 0, .int 0, .int 0, .int 0, .int 0, .int 0, .int 0, .int 0, .ref b46, .ref b47, .ref b48, .ref b49, .ref b50, .ref b51, .ref b52, .ref b53, .ref b54, .ref b55, .ref b56, .ref b57, .ref b58, .ref b59, .ref b60, .ref b61, .ref b62, .ref b63]))] := hW
    refine lv_if_ne (tgt := 28) (pc := 23) hx hb dX12_drawn_23 rfl (fun c4 => ?_) (fun c4 => ?_)
    · have hok : dOk p0 p1 := by
        have q1 := inv3_1 c2; have q2 := inv3_1 c4
        rw [fa_lt, fa_lt, i2, i7] at q1; rw [fa_lt, fa_lt, i0] at q2
        have q3 : (p0 - 1).toInt = p0.toInt - 1 := by rw [fb_subI (by rw [i1]; omega) (by rw [i1]; omega), i1]
        rw [q3] at q2
        exact ⟨by omega, by omega, by omega, by omega⟩
      obtain ⟨n, fi, hn, hn7, hfi, rfl, rfl, hdv⟩ := dv_yes p2 hok
      refine lv_iconst (v := 1) (pc := 28) hx hb dX12_drawn_28 (by decide) ?_
      refine lv_iload_n (pc := 29) hx hb dX12_drawn_29 rfl (lv_at hl 2 rfl) ?_
      refine lv_ishl (pc := 30) hx hb dX12_drawn_30 ?_
      refine lv_topi (fun v5 ev5 => ?_)
      obtain rfl : v5 = (1 : Int32) <<< (nI fi &&& 31) := ev5.trans (rfl)
      refine lv_istore (lv' := [(5, .int ((1 : Int32) <<< (nI fi &&& 31))), (0, .ref h0), (1, .int (nI n)), (2, .int (nI fi)), (3, .long p2)]) (pc := 31) hx hb dX12_drawn_31 hl (by decide) rfl (fun ls hl => ?_)
      refine lv_lload_n (pc := 33) hx hb dX12_drawn_33 rfl (lv_at hl 4 rfl) ?_
      refine lv_lstore (lv' := [(6, .long p2), (5, .int ((1 : Int32) <<< (nI fi &&& 31))), (0, .ref h0), (1, .int (nI n)), (2, .int (nI fi)), (3, .long p2)]) (pc := 34) hx hb dX12_drawn_34 hl (by decide) rfl (fun ls hl => ?_)
      refine lv_iconst (v := 1) (pc := 36) hx hb dX12_drawn_36 (by decide) ?_
      refine lv_istore (lv' := [(8, .int 1), (6, .long p2), (5, .int ((1 : Int32) <<< (nI fi &&& 31))), (0, .ref h0), (1, .int (nI n)), (2, .int (nI fi)), (3, .long p2)]) (pc := 37) hx hb dX12_drawn_37 hl (by decide) rfl (fun ls hl => ?_)
      have loop1 : ∀ (fu : Nat) (i : Nat) (kn : Int32) (x : Int64), (61 ≤ fu + i) → (i ≤ 60) → (drH n 60 1 ((1 : Int32) <<< (nI fi &&& 31)) p2 = drH n (60 - i) (nI (i + 1)) kn x) → ∀ (H : Heap) (locs : List Loc) (ls : Array Slot), WD g A s H locs [(h0, .inr (12, [.int 0, .ref b1, .int 0, .int 0, .int 0, .int 0, .ref b6, .ref b7, .ref b8, .ref b9, .ref b10, .ref b11, .ref b12, .ref b13, .ref b14, .ref b15, .ref b16, .ref b17, .int 0, .int (-1), .int (-1), .ref b21, .ref b22, .ref b23, .ref b24, .ref b25, .ref b26, .int 0, .ref b28, .ref b29, .ref b30, .ref b31, .ref b32, .ref b33, .ref b34, .ref b35, .ref b36, .int 0, .int 0, .int 0, .int 0, .int 0, .int 0, .int 0, .int 0, .int 0, .ref b46, .ref b47, .ref b48, .ref b49, .ref b50, .ref b51, .ref b52, .ref b53, .ref b54, .ref b55, .ref b56, .ref b57, .ref b58, .ref b59, .ref b60, .ref b61, .ref b62, .ref b63]))] → lv_has ls 13 [(1, .int (nI n)), (5, .int kn), (6, .long x), (8, .int (nI (i + 1)))] → W p l e (RM 1 0 0) s m args below meth c H locs 0 0 Q (F0 m 39 ls []) := by
        intro fu
        induction fu with
        | zero =>
          intro i kn x hm hi hres
          exact absurd hm (by omega)
        | succ fu ih1 =>
          intro i kn x hm hi hres H locs ls hW hl
          refine lv_iload (pc := 39) hx hb dX12_drawn_39 (lv_at hl 3 rfl) ?_
          refine lv_bipush (v := 60) (pc := 41) hx hb dX12_drawn_41 (by decide) ?_
          refine lv_icmp_gt (tgt := 148) (pc := 43) hx hb dX12_drawn_43 rfl (fun c6 => ?_) (fun c6 => ?_)
          · refine lv_iconst (v := (-1)) (pc := 148) hx hb dX12_drawn_148 (by decide) ?_
            exact e_i X hQ hr hW (u := []) [] rfl rfl (⟨by rw [hdv, hres, show 60 - i = 0 by have := lt_t (i := 60) (k := i + 1) (by decide) (by omega) c6; omega, drH], rfl⟩) ⟨Nat.le_of_ble_eq_true rfl, Nat.le_of_ble_eq_true rfl⟩ dX12_drawn_149
          · have hlt : i + 1 ≤ 60 := by have := lt_f (i := 60) (k := i + 1) (by decide) (by omega) c6; omega
            refine lv_iconst (v := 0) (pc := 46) hx hb dX12_drawn_46 (by decide) ?_
            refine lv_istore (lv' := [(9, .int 0), (1, .int (nI n)), (5, .int kn), (6, .long x), (8, .int (nI (i + 1)))]) (pc := 47) hx hb dX12_drawn_47 hl (by decide) rfl (fun ls hl => ?_)
            refine lv_iconst (v := 0) (pc := 49) hx hb dX12_drawn_49 (by decide) ?_
            refine lv_istore (lv' := [(10, .int 0), (9, .int 0), (1, .int (nI n)), (5, .int kn), (6, .long x), (8, .int (nI (i + 1)))]) (pc := 50) hx hb dX12_drawn_50 hl (by decide) rfl (fun ls hl => ?_)
            have loop2 : ∀ (fu : Nat) (o : Nat) (ca : Int32) (y : Int64), (n + 1 ≤ fu + o) → (o ≤ n) → (drO n kn o x = (ca, y)) → ∀ (H : Heap) (locs : List Loc) (ls : Array Slot), WD g A s H locs [(h0, .inr (12, [.int 0, .ref b1, .int 0, .int 0, .int 0, .int 0, .ref b6, .ref b7, .ref b8, .ref b9, .ref b10, .ref b11, .ref b12, .ref b13, .ref b14, .ref b15, .ref b16, .ref b17, .int 0, .int (-1), .int (-1), .ref b21, .ref b22, .ref b23, .ref b24, .ref b25, .ref b26, .int 0, .ref b28, .ref b29, .ref b30, .ref b31, .ref b32, .ref b33, .ref b34, .ref b35, .ref b36, .int 0, .int 0, .int 0, .int 0, .int 0, .int 0, .int 0, .int 0, .int 0, .ref b46, .ref b47, .ref b48, .ref b49, .ref b50, .ref b51, .ref b52, .ref b53, .ref b54, .ref b55, .ref b56, .ref b57, .ref b58, .ref b59, .ref b60, .ref b61, .ref b62, .ref b63]))] → lv_has ls 13 [(1, .int (nI n)), (5, .int kn), (6, .long y), (8, .int (nI (i + 1))), (9, .int ca), (10, .int (nI o))] → W p l e (RM 1 0 0) s m args below meth c H locs 0 0 Q (F0 m 52 ls []) := by
              intro fu
              induction fu with
              | zero =>
                intro o ca y hm ho hdr
                exact absurd hm (by omega)
              | succ fu ih2 =>
                intro o ca y hm ho hdr H locs ls hW hl
                refine lv_iload (pc := 52) hx hb dX12_drawn_52 (lv_at hl 5 rfl) ?_
                refine lv_iload_n (pc := 54) hx hb dX12_drawn_54 rfl (lv_at hl 0 rfl) ?_
                refine lv_icmp_ge (tgt := 122) (pc := 55) hx hb dX12_drawn_55 rfl (fun c7 => ?_) (fun c7 => ?_)
                · have hon : o = n := by have := ge_t (k := n) (by omega) (by omega) c7; omega
                  rw [hon] at hdr
                  refine lv_iload (pc := 122) hx hb dX12_drawn_122 (lv_at hl 1 rfl) ?_
                  refine lv_iload (pc := 124) hx hb dX12_drawn_124 (lv_at hl 4 rfl) ?_
                  refine lv_ior (pc := 126) hx hb dX12_drawn_126 ?_
                  refine lv_topi (fun v8 ev8 => ?_)
                  obtain rfl : v8 = kn ||| ca := ev8.trans (rfl)
                  refine lv_istore (lv' := [(5, .int (kn ||| ca)), (1, .int (nI n)), (6, .long y), (8, .int (nI (i + 1))), (9, .int ca), (10, .int (nI o))]) (pc := 127) hx hb dX12_drawn_127 hl (by decide) rfl (fun ls hl => ?_)
                  refine lv_iload (pc := 129) hx hb dX12_drawn_129 (lv_at hl 0 rfl) ?_
                  refine lv_iconst (v := 1) (pc := 131) hx hb dX12_drawn_131 (by decide) ?_
                  refine lv_iload_n (pc := 132) hx hb dX12_drawn_132 rfl (lv_at hl 1 rfl) ?_
                  refine lv_ishl (pc := 133) hx hb dX12_drawn_133 ?_
                  refine lv_topi (fun v9 ev9 => ?_)
                  obtain rfl : v9 = (1 : Int32) <<< (nI n &&& 31) := ev9.trans (rfl)
                  refine lv_iconst (v := 1) (pc := 134) hx hb dX12_drawn_134 (by decide) ?_
                  refine lv_isub (pc := 135) hx hb dX12_drawn_135 ?_
                  refine lv_topi (fun v10 ev10 => ?_)
                  obtain rfl : v10 = evr n := ev10.trans (rfl)
                  refine lv_icmp_ne (tgt := 142) (pc := 136) hx hb dX12_drawn_136 rfl (fun c11 => ?_) (fun c11 => ?_)
                  · have hre2 : drH n 60 1 ((1 : Int32) <<< (nI fi &&& 31)) p2 = drH n (60 - (i + 1)) (nI (i + 1 + 1)) (kn ||| ca) y := by
                      rw [hres, show 60 - i = (60 - (i + 1)) + 1 by omega, drH, hdr, if_neg c11, nI_1]
                    refine lv_iinc (v := nI (i + 1 + 1)) (lv' := [(8, .int (nI (i + 1 + 1))), (5, .int (kn ||| ca)), (1, .int (nI n)), (6, .long y), (9, .int ca), (10, .int (nI o))]) (pc := 142) hx hb dX12_drawn_142 hl (k := 3) rfl (nI_1 (i + 1)) (by decide) rfl (fun ls hl => ?_)
                    refine lv_goto (tgt := 39) (pc := 145) hx hb dX12_drawn_145 rfl ?_
                    exact ih1 (i + 1) (kn ||| ca) y (by omega) (by omega) hre2 _ _ _ hW (lv_sub hl [2, 1, 3, 0] rfl)
                  · refine lv_iload (pc := 139) hx hb dX12_drawn_139 (lv_at hl 3 rfl) ?_
                    exact e_i X hQ hr hW (u := []) [] rfl rfl (⟨by rw [hdv, hres, show 60 - i = (60 - (i + 1)) + 1 by omega, drH, hdr, if_pos c11], rfl⟩) ⟨Nat.le_of_ble_eq_true rfl, Nat.le_of_ble_eq_true rfl⟩ dX12_drawn_141
                · have hlo : o < n := ge_f (by omega) (by omega) c7
                  refine lv_lload (pc := 58) hx hb dX12_drawn_58 (lv_at hl 2 rfl) ?_
                  refine lv_ldc2 (pc := 60) hx hb X.2.2.2.1 (X.2.2.2.2.1 _ m_1768) dX12_drawn_60 ?_
                  refine lv_lmul (pc := 63) hx hb dX12_drawn_63 ?_
                  refine lv_ldc2 (pc := 64) hx hb X.2.2.2.1 (X.2.2.2.2.1 _ m_1769) dX12_drawn_64 ?_
                  refine lv_ladd (pc := 67) hx hb dX12_drawn_67 ?_
                  refine lv_topl (fun v12 ev12 => ?_)
                  obtain rfl : v12 = lcg y := ev12.trans (rfl)
                  refine lv_lstore (lv' := [(6, .long (lcg y)), (1, .int (nI n)), (5, .int kn), (8, .int (nI (i + 1))), (9, .int ca), (10, .int (nI o))]) (pc := 68) hx hb dX12_drawn_68 hl (by decide) rfl (fun ls hl => ?_)
                  refine lv_lload (pc := 70) hx hb dX12_drawn_70 (lv_at hl 0 rfl) ?_
                  refine lv_bipush (v := 33) (pc := 72) hx hb dX12_drawn_72 (by decide) ?_
                  refine lv_lushr (v := _) (pc := 74) hx hb dX12_drawn_74 rfl ?_
                  refine lv_topl (fun v13 ev13 => ?_)
                  obtain rfl : v13 = shr33 (lcg y) := ev13.trans (rfl)
                  refine lv_iload_n (pc := 75) hx hb dX12_drawn_75 rfl (lv_at hl 1 rfl) ?_
                  refine lv_iconst (v := 1) (pc := 76) hx hb dX12_drawn_76 (by decide) ?_
                  refine lv_isub (pc := 77) hx hb dX12_drawn_77 ?_
                  refine lv_topi (fun v14 ev14 => ?_)
                  obtain rfl : v14 = nI (n - 1) := ev14.trans (pk_sub (a := n) (b := 1) (by omega))
                  refine lv_i2l (v := lN (n - 1)) (pc := 78) hx hb dX12_drawn_78 (nI_l (by omega)) ?_
                  refine lv_lrem (pc := 79) hx hb dX12_drawn_79 (nz1 hn hn7) ?_
                  refine lv_topl (fun v15 ev15 => ?_)
                  obtain rfl : v15 = plcL n (lcg y) := ev15.trans (rfl)
                  refine lv_l2i (v := plc n (lcg y)) (pc := 80) hx hb dX12_drawn_80 (rfl) ?_
                  refine lv_istore (lv' := [(11, .int (plc n (lcg y))), (6, .long (lcg y)), (1, .int (nI n)), (5, .int kn), (8, .int (nI (i + 1))), (9, .int ca), (10, .int (nI o))]) (pc := 81) hx hb dX12_drawn_81 hl (by decide) rfl (fun ls hl => ?_)
                  refine lv_iload (pc := 83) hx hb dX12_drawn_83 (lv_at hl 0 rfl) ?_
                  refine lv_iload (pc := 85) hx hb dX12_drawn_85 (lv_at hl 6 rfl) ?_
                  refine lv_icmp_ge (tgt := 95) (pc := 87) hx hb dX12_drawn_87 rfl (fun c16 => ?_) (fun c16 => ?_)
                  · refine lv_iload (pc := 95) hx hb dX12_drawn_95 (lv_at hl 0 rfl) ?_
                    refine lv_iconst (v := 1) (pc := 97) hx hb dX12_drawn_97 (by decide) ?_
                    refine lv_iadd (pc := 98) hx hb dX12_drawn_98 ?_
                    refine lv_topi (fun t9 et9 => ?_)
                    obtain rfl : t9 = oth (nI o) (plc n (lcg y)) := et9.trans (if_neg (fun h9 => (Int32.not_le.mpr h9) c16)).symm
                    refine lv_istore (lv' := [(12, .int (oth (nI o) (plc n (lcg y)))), (11, .int (plc n (lcg y))), (6, .long (lcg y)), (1, .int (nI n)), (5, .int kn), (8, .int (nI (i + 1))), (9, .int ca), (10, .int (nI o))]) (pc := 99) hx hb dX12_drawn_99 hl (by decide) rfl (fun ls hl => ?_)
                    refine lv_iload (pc := 101) hx hb dX12_drawn_101 (lv_at hl 6 rfl) ?_
                    refine lv_iload (pc := 103) hx hb dX12_drawn_103 (lv_at hl 4 rfl) ?_
                    refine lv_iload (pc := 105) hx hb dX12_drawn_105 (lv_at hl 7 rfl) ?_
                    refine lv_ishr (pc := 107) hx hb dX12_drawn_107 ?_
                    refine lv_iconst (v := 1) (pc := 108) hx hb dX12_drawn_108 (by decide) ?_
                    refine lv_iand (pc := 109) hx hb dX12_drawn_109 ?_
                    refine lv_iload (pc := 110) hx hb dX12_drawn_110 (lv_at hl 0 rfl) ?_
                    refine lv_ishl (pc := 112) hx hb dX12_drawn_112 ?_
                    refine lv_ior (pc := 113) hx hb dX12_drawn_113 ?_
                    refine lv_topi (fun v17 ev17 => ?_)
                    obtain rfl : v17 = (if hasv kn (nI o) = 0 then ca else ca ||| ((1 : Int32) <<< (oth (nI o) (plc n (lcg y)) &&& 31))) := ev17.trans (cal_eq kn (nI o) _ ca)
                    refine lv_istore (lv' := [(9, .int (if hasv kn (nI o) = 0 then ca else ca ||| ((1 : Int32) <<< (oth (nI o) (plc n (lcg y)) &&& 31)))), (12, .int (oth (nI o) (plc n (lcg y)))), (11, .int (plc n (lcg y))), (6, .long (lcg y)), (1, .int (nI n)), (5, .int kn), (8, .int (nI (i + 1))), (10, .int (nI o))]) (pc := 114) hx hb dX12_drawn_114 hl (by decide) rfl (fun ls hl => ?_)
                    refine lv_iinc (v := nI (o + 1)) (lv' := [(10, .int (nI (o + 1))), (9, .int (if hasv kn (nI o) = 0 then ca else ca ||| ((1 : Int32) <<< (oth (nI o) (plc n (lcg y)) &&& 31)))), (12, .int (oth (nI o) (plc n (lcg y)))), (11, .int (plc n (lcg y))), (6, .long (lcg y)), (1, .int (nI n)), (5, .int kn), (8, .int (nI (i + 1)))]) (pc := 116) hx hb dX12_drawn_116 hl (k := 7) rfl (nI_1 o) (by decide) rfl (fun ls hl => ?_)
                    refine lv_goto (tgt := 52) (pc := 119) hx hb dX12_drawn_119 rfl ?_
                    exact ih2 (o + 1) _ (lcg y) (by omega) (by omega) (drO_1 hdr) _ _ _ hW (lv_sub hl [5, 6, 4, 7, 1, 0] rfl)
                  · refine lv_iload (pc := 90) hx hb dX12_drawn_90 (lv_at hl 0 rfl) ?_
                    refine lv_goto (tgt := 99) (pc := 92) hx hb dX12_drawn_92 rfl ?_
                    refine lv_topi (fun t9 et9 => ?_)
                    obtain rfl : t9 = oth (nI o) (plc n (lcg y)) := et9.trans (if_pos (fa_of_nle c16)).symm
                    refine lv_istore (lv' := [(12, .int (oth (nI o) (plc n (lcg y)))), (11, .int (plc n (lcg y))), (6, .long (lcg y)), (1, .int (nI n)), (5, .int kn), (8, .int (nI (i + 1))), (9, .int ca), (10, .int (nI o))]) (pc := 99) hx hb dX12_drawn_99 hl (by decide) rfl (fun ls hl => ?_)
                    refine lv_iload (pc := 101) hx hb dX12_drawn_101 (lv_at hl 6 rfl) ?_
                    refine lv_iload (pc := 103) hx hb dX12_drawn_103 (lv_at hl 4 rfl) ?_
                    refine lv_iload (pc := 105) hx hb dX12_drawn_105 (lv_at hl 7 rfl) ?_
                    refine lv_ishr (pc := 107) hx hb dX12_drawn_107 ?_
                    refine lv_iconst (v := 1) (pc := 108) hx hb dX12_drawn_108 (by decide) ?_
                    refine lv_iand (pc := 109) hx hb dX12_drawn_109 ?_
                    refine lv_iload (pc := 110) hx hb dX12_drawn_110 (lv_at hl 0 rfl) ?_
                    refine lv_ishl (pc := 112) hx hb dX12_drawn_112 ?_
                    refine lv_ior (pc := 113) hx hb dX12_drawn_113 ?_
                    refine lv_topi (fun v18 ev18 => ?_)
                    obtain rfl : v18 = (if hasv kn (nI o) = 0 then ca else ca ||| ((1 : Int32) <<< (oth (nI o) (plc n (lcg y)) &&& 31))) := ev18.trans (cal_eq kn (nI o) _ ca)
                    refine lv_istore (lv' := [(9, .int (if hasv kn (nI o) = 0 then ca else ca ||| ((1 : Int32) <<< (oth (nI o) (plc n (lcg y)) &&& 31)))), (12, .int (oth (nI o) (plc n (lcg y)))), (11, .int (plc n (lcg y))), (6, .long (lcg y)), (1, .int (nI n)), (5, .int kn), (8, .int (nI (i + 1))), (10, .int (nI o))]) (pc := 114) hx hb dX12_drawn_114 hl (by decide) rfl (fun ls hl => ?_)
                    refine lv_iinc (v := nI (o + 1)) (lv' := [(10, .int (nI (o + 1))), (9, .int (if hasv kn (nI o) = 0 then ca else ca ||| ((1 : Int32) <<< (oth (nI o) (plc n (lcg y)) &&& 31)))), (12, .int (oth (nI o) (plc n (lcg y)))), (11, .int (plc n (lcg y))), (6, .long (lcg y)), (1, .int (nI n)), (5, .int kn), (8, .int (nI (i + 1)))]) (pc := 116) hx hb dX12_drawn_116 hl (k := 7) rfl (nI_1 o) (by decide) rfl (fun ls hl => ?_)
                    refine lv_goto (tgt := 52) (pc := 119) hx hb dX12_drawn_119 rfl ?_
                    exact ih2 (o + 1) _ (lcg y) (by omega) (by omega) (drO_1 hdr) _ _ _ hW (lv_sub hl [5, 6, 4, 7, 1, 0] rfl)
            exact loop2 (n + 1) 0 0 x (by omega) (by omega) rfl _ _ _ hW (lv_sub hl [2, 3, 4, 5, 1, 0] rfl)
      exact loop1 61 0 ((1 : Int32) <<< (nI fi &&& 31)) p2 (by decide) (by decide) rfl _ _ _ hW (lv_sub hl [4, 2, 1, 0] rfl)
    · refine lv_iconst (v := (-1)) (pc := 26) hx hb dX12_drawn_26 (by decide) ?_
      exact e_i X hQ hr hW (u := []) [] rfl rfl (⟨dv_no (fun h9 => by obtain ⟨h1, h2, h3, h4⟩ := h9; rcases inv3_0 c4 with h8 | h8 <;> (rw [fa_lt] at h8; try rw [fb_subI (by rw [i1]; omega) (by rw [i1]; omega)] at h8) <;> (try simp only [i0, i1, i2, i7] at h8) <;> omega), rfl⟩) ⟨Nat.le_of_ble_eq_true rfl, Nat.le_of_ble_eq_true rfl⟩ dX12_drawn_27

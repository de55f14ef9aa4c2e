/-- a line's one-way mark, as a boolean; who are next to one; who hold together -/
def b1 (x : Int32) : Int32 := if x = 1 then 1 else 0
def nst (L : Nat → Int32) (one : Int32) (i : Nat) (s : Int32) : Int32 :=
  if ¬ b1 (L (i * 6 + 4)) = 0 then s else
    (if ¬ L (i * 6 + 1) = one then (if ¬ L (i * 6) = one then s else s ||| ((1 : Int32) <<< (L (i * 6 + 1) &&& 31))) else (if ¬ L (i * 6) = one then s else s ||| ((1 : Int32) <<< (L (i * 6 + 1) &&& 31))) ||| ((1 : Int32) <<< (L (i * 6) &&& 31)))
def nbs (L : Nat → Int32) (one : Int32) : Nat → Int32
  | 0 => 0
  | i + 1 => nst L one i (nbs L one i)
def hln (L : Nat → Int32) (n : Nat) (held : Int32) : Nat → Int32
  | 0 => held
  | k + 1 => if hasv held (nI k) = 0 then hln L n held k else hln L n held k ||| nbs L (nI k) n
def hld (L : Nat → Int32) (n p : Nat) : Nat → Int32
  | 0 => 1
  | s + 1 => hln L n (hld L n p s) p
def evy (p : Int32) : Int32 := ((1 : Int32) <<< (p &&& 31)) - 1
def holds (L : Nat → Int32) (n p : Nat) : Int32 := if hld L n p (p - 1) = evy (nI p) then 1 else 0
def lwE (x : Int32) : Int32 := if x < 4 then (x * (x - 1)) / 2 else 2 * x - 4
def upE (x : Int32) : Int32 := if x < 4 then (x * (x - 1)) / 2 else 2 * x - 3
theorem five {p : Nat} (h : p ≤ 5) : p = 0 ∨ p = 1 ∨ p = 2 ∨ p = 3 ∨ p = 4 ∨ p = 5 := by omega
theorem lwE_b {p : Nat} (h : p ≤ 5) : ∃ k : Nat, k ≤ 7 ∧ lwE (nI p) = nI k := by
  rcases five h with rfl | rfl | rfl | rfl | rfl | rfl
  · exact ⟨0, by omega, by decide⟩
  · exact ⟨0, by omega, by decide⟩
  · exact ⟨1, by omega, by decide⟩
  · exact ⟨3, by omega, by decide⟩
  · exact ⟨4, by omega, by decide⟩
  · exact ⟨6, by omega, by decide⟩
theorem upE_b {p : Nat} (h : p ≤ 5) : ∃ k : Nat, k ≤ 7 ∧ upE (nI p) = nI k := by
  rcases five h with rfl | rfl | rfl | rfl | rfl | rfl
  · exact ⟨0, by omega, by decide⟩
  · exact ⟨0, by omega, by decide⟩
  · exact ⟨1, by omega, by decide⟩
  · exact ⟨3, by omega, by decide⟩
  · exact ⟨5, by omega, by decide⟩
  · exact ⟨7, by omega, by decide⟩
def gb (r : Nat → Int32) : Prop := ∀ j : Nat, j < 7 → 0 ≤ (r j).toInt ∧ (r j).toInt ≤ 11
theorem gb_upd {r : Nat → Int32} (h : gb r) {i k : Nat} (hi : i ≤ 11) : gb (upd r k (nI i)) := fun j hj => by
  by_cases e : j = k
  · subst e; simp only [upd, if_true]; rw [nI_toInt (by omega)]; omega
  · simp only [upd, e, if_false]; exact h j hj
/-- a valley's lines have their ends among its people -/
def endsIn (L : Nat → Int32) (n p : Nat) : Prop := ∀ i : Nat, i < n → ∃ a b : Nat, a < p ∧ b < p ∧ L (i * 6) = nI a ∧ L (i * 6 + 1) = nI b
theorem m_500 : (Cond.code yX10_lineFact prog_12_method_11_code 3 (Option.some FieldType.int)) ∈ BW := bw (tb3 20 rfl) (by decide +kernel)
theorem dX10_lineFact_0 : decode cX10_lineFact 0 = .ok (.aload_n 0, 1) := DX10_lineFact _ _ _ rfl
theorem dX10_lineFact_1 : decode cX10_lineFact 1 = .ok (.getfield 30, 3) := DX10_lineFact _ _ _ rfl
theorem dX10_lineFact_4 : decode cX10_lineFact 4 = .ok (.iload_n 1, 1) := DX10_lineFact _ _ _ rfl
theorem dX10_lineFact_5 : decode cX10_lineFact 5 = .ok (.bipush 6, 2) := DX10_lineFact _ _ _ rfl
theorem dX10_lineFact_7 : decode cX10_lineFact 7 = .ok (.imul, 1) := DX10_lineFact _ _ _ rfl
theorem dX10_lineFact_8 : decode cX10_lineFact 8 = .ok (.iload_n 2, 1) := DX10_lineFact _ _ _ rfl
theorem dX10_lineFact_9 : decode cX10_lineFact 9 = .ok (.iadd, 1) := DX10_lineFact _ _ _ rfl
theorem dX10_lineFact_10 : decode cX10_lineFact 10 = .ok (.iaload, 1) := DX10_lineFact _ _ _ rfl
theorem dX10_lineFact_11 : decode cX10_lineFact 11 = .ok (.ireturn, 1) := DX10_lineFact _ _ _ rfl
theorem m_496 : (Cond.code yX10_lineA prog_12_method_12_code 2 (Option.some FieldType.int)) ∈ BW := bw (tb3 16 rfl) (by decide +kernel)
theorem dX10_lineA_0 : decode cX10_lineA 0 = .ok (.aload_n 0, 1) := DX10_lineA _ _ _ rfl
theorem dX10_lineA_1 : decode cX10_lineA 1 = .ok (.iload_n 1, 1) := DX10_lineA _ _ _ rfl
theorem dX10_lineA_2 : decode cX10_lineA 2 = .ok (.iconst 0, 1) := DX10_lineA _ _ _ rfl
theorem m_497 : (Cond.methodLink "NoonValley$Valley" 88 yX10_lineFact) ∈ BW := bw (tb3 17 (by decide +kernel)) (by decide +kernel)
theorem m_498 : (Cond.instanceMethod yX10_lineFact) ∈ BW := bw (tb3 18 (by decide +kernel)) (by decide +kernel)
theorem m_499 : (Cond.selects "NoonValley$Valley" yX10_lineFact yX10_lineFact) ∈ BW := bw (tb3 19 (by decide +kernel)) (by decide +kernel)
theorem vX10_88 : LV RX10 88 RX10 yX10_lineFact cX10_lineFact 3 (some .int) 2 := ⟨m_497, m_498, m_499, m_11, m_500, rfl, by decide, by decide, by decide +kernel⟩
theorem dX10_lineA_3 : decode cX10_lineA 3 = .ok (.invokevirtual 88, 3) := DX10_lineA _ _ _ rfl
theorem dX10_lineA_6 : decode cX10_lineA 6 = .ok (.ireturn, 1) := DX10_lineA _ _ _ rfl
theorem m_504 : (Cond.code yX10_lineB prog_12_method_13_code 2 (Option.some FieldType.int)) ∈ BW := bw (tb3 24 rfl) (by decide +kernel)
theorem dX10_lineB_0 : decode cX10_lineB 0 = .ok (.aload_n 0, 1) := DX10_lineB _ _ _ rfl
theorem dX10_lineB_1 : decode cX10_lineB 1 = .ok (.iload_n 1, 1) := DX10_lineB _ _ _ rfl
theorem dX10_lineB_2 : decode cX10_lineB 2 = .ok (.iconst 1, 1) := DX10_lineB _ _ _ rfl
theorem dX10_lineB_3 : decode cX10_lineB 3 = .ok (.invokevirtual 88, 3) := DX10_lineB _ _ _ rfl
theorem dX10_lineB_6 : decode cX10_lineB 6 = .ok (.ireturn, 1) := DX10_lineB _ _ _ rfl
theorem m_516 : (Cond.code yX10_isOneWay prog_12_method_14_code 2 (Option.some FieldType.boolean)) ∈ BW := bw (tb3 36 rfl) (by decide +kernel)
theorem dX10_isOneWay_0 : decode cX10_isOneWay 0 = .ok (.aload_n 0, 1) := DX10_isOneWay _ _ _ rfl
theorem dX10_isOneWay_1 : decode cX10_isOneWay 1 = .ok (.iload_n 1, 1) := DX10_isOneWay _ _ _ rfl
theorem dX10_isOneWay_2 : decode cX10_isOneWay 2 = .ok (.iconst 4, 1) := DX10_isOneWay _ _ _ rfl
theorem dX10_isOneWay_3 : decode cX10_isOneWay 3 = .ok (.invokevirtual 88, 3) := DX10_isOneWay _ _ _ rfl
theorem dX10_isOneWay_6 : decode cX10_isOneWay 6 = .ok (.iconst 1, 1) := DX10_isOneWay _ _ _ rfl
theorem dX10_isOneWay_7 : decode cX10_isOneWay 7 = .ok (.if_icmp .ne 7, 3) := DX10_isOneWay _ _ _ rfl
theorem dX10_isOneWay_14 : decode cX10_isOneWay 14 = .ok (.iconst 0, 1) := DX10_isOneWay _ _ _ rfl
theorem dX10_isOneWay_15 : decode cX10_isOneWay 15 = .ok (.ireturn, 1) := DX10_isOneWay _ _ _ rfl
theorem dX10_isOneWay_10 : decode cX10_isOneWay 10 = .ok (.iconst 1, 1) := DX10_isOneWay _ _ _ rfl
theorem dX10_isOneWay_11 : decode cX10_isOneWay 11 = .ok (.goto 4, 3) := DX10_isOneWay _ _ _ rfl
theorem m_677 : (Cond.code yX10_everyone prog_12_method_7_code 1 (Option.some FieldType.int)) ∈ BW := bw (tb3 197 rfl) (by decide +kernel)
theorem dX10_everyone_0 : decode cX10_everyone 0 = .ok (.iconst 1, 1) := DX10_everyone _ _ _ rfl
theorem dX10_everyone_1 : decode cX10_everyone 1 = .ok (.aload_n 0, 1) := DX10_everyone _ _ _ rfl
theorem dX10_everyone_2 : decode cX10_everyone 2 = .ok (.getfield 54, 3) := DX10_everyone _ _ _ rfl
theorem dX10_everyone_5 : decode cX10_everyone 5 = .ok (.ishl, 1) := DX10_everyone _ _ _ rfl
theorem dX10_everyone_6 : decode cX10_everyone 6 = .ok (.iconst 1, 1) := DX10_everyone _ _ _ rfl
theorem dX10_everyone_7 : decode cX10_everyone 7 = .ok (.isub, 1) := DX10_everyone _ _ _ rfl
theorem dX10_everyone_8 : decode cX10_everyone 8 = .ok (.ireturn, 1) := DX10_everyone _ _ _ rfl
theorem m_898 : (Cond.code yX10_neighbours prog_12_method_21_code 4 (Option.some FieldType.int)) ∈ BW := bw (tb4 178 rfl) (by decide +kernel)
theorem dX10_neighbours_0 : decode cX10_neighbours 0 = .ok (.iconst 0, 1) := DX10_neighbours _ _ _ rfl
theorem dX10_neighbours_1 : decode cX10_neighbours 1 = .ok (.istore_n 2, 1) := DX10_neighbours _ _ _ rfl
theorem dX10_neighbours_2 : decode cX10_neighbours 2 = .ok (.iconst 0, 1) := DX10_neighbours _ _ _ rfl
theorem dX10_neighbours_3 : decode cX10_neighbours 3 = .ok (.istore_n 3, 1) := DX10_neighbours _ _ _ rfl
theorem dX10_neighbours_4 : decode cX10_neighbours 4 = .ok (.iload_n 3, 1) := DX10_neighbours _ _ _ rfl
theorem dX10_neighbours_5 : decode cX10_neighbours 5 = .ok (.aload_n 0, 1) := DX10_neighbours _ _ _ rfl
theorem dX10_neighbours_6 : decode cX10_neighbours 6 = .ok (.getfield 57, 3) := DX10_neighbours _ _ _ rfl
theorem dX10_neighbours_9 : decode cX10_neighbours 9 = .ok (.if_icmp .ge 58, 3) := DX10_neighbours _ _ _ rfl
theorem dX10_neighbours_67 : decode cX10_neighbours 67 = .ok (.iload_n 2, 1) := DX10_neighbours _ _ _ rfl
theorem dX10_neighbours_68 : decode cX10_neighbours 68 = .ok (.ireturn, 1) := DX10_neighbours _ _ _ rfl
theorem dX10_neighbours_12 : decode cX10_neighbours 12 = .ok (.aload_n 0, 1) := DX10_neighbours _ _ _ rfl
theorem dX10_neighbours_13 : decode cX10_neighbours 13 = .ok (.iload_n 3, 1) := DX10_neighbours _ _ _ rfl
theorem m_513 : (Cond.methodLink "NoonValley$Valley" 105 yX10_isOneWay) ∈ BW := bw (tb3 33 (by decide +kernel)) (by decide +kernel)
theorem m_514 : (Cond.instanceMethod yX10_isOneWay) ∈ BW := bw (tb3 34 (by decide +kernel)) (by decide +kernel)
theorem m_515 : (Cond.selects "NoonValley$Valley" yX10_isOneWay yX10_isOneWay) ∈ BW := bw (tb3 35 (by decide +kernel)) (by decide +kernel)
theorem vX10_105 : LV RX10 105 RX10 yX10_isOneWay cX10_isOneWay 2 (some .boolean) 1 := ⟨m_513, m_514, m_515, m_11, m_516, rfl, by decide, by decide, by decide +kernel⟩
theorem dX10_neighbours_14 : decode cX10_neighbours 14 = .ok (.invokevirtual 105, 3) := DX10_neighbours _ _ _ rfl
theorem dX10_neighbours_17 : decode cX10_neighbours 17 = .ok (.ifCond .eq 6, 3) := DX10_neighbours _ _ _ rfl
theorem dX10_neighbours_23 : decode cX10_neighbours 23 = .ok (.aload_n 0, 1) := DX10_neighbours _ _ _ rfl
theorem dX10_neighbours_24 : decode cX10_neighbours 24 = .ok (.iload_n 3, 1) := DX10_neighbours _ _ _ rfl
theorem m_493 : (Cond.methodLink "NoonValley$Valley" 95 yX10_lineA) ∈ BW := bw (tb3 13 (by decide +kernel)) (by decide +kernel)
theorem m_494 : (Cond.instanceMethod yX10_lineA) ∈ BW := bw (tb3 14 (by decide +kernel)) (by decide +kernel)
theorem m_495 : (Cond.selects "NoonValley$Valley" yX10_lineA yX10_lineA) ∈ BW := bw (tb3 15 (by decide +kernel)) (by decide +kernel)
theorem vX10_95 : LV RX10 95 RX10 yX10_lineA cX10_lineA 2 (some .int) 1 := ⟨m_493, m_494, m_495, m_11, m_496, rfl, by decide, by decide, by decide +kernel⟩
theorem dX10_neighbours_25 : decode cX10_neighbours 25 = .ok (.invokevirtual 95, 3) := DX10_neighbours _ _ _ rfl
theorem dX10_neighbours_28 : decode cX10_neighbours 28 = .ok (.iload_n 1, 1) := DX10_neighbours _ _ _ rfl
theorem dX10_neighbours_29 : decode cX10_neighbours 29 = .ok (.if_icmp .ne 13, 3) := DX10_neighbours _ _ _ rfl
theorem dX10_neighbours_42 : decode cX10_neighbours 42 = .ok (.aload_n 0, 1) := DX10_neighbours _ _ _ rfl
theorem dX10_neighbours_43 : decode cX10_neighbours 43 = .ok (.iload_n 3, 1) := DX10_neighbours _ _ _ rfl
theorem m_501 : (Cond.methodLink "NoonValley$Valley" 99 yX10_lineB) ∈ BW := bw (tb3 21 (by decide +kernel)) (by decide +kernel)
theorem m_502 : (Cond.instanceMethod yX10_lineB) ∈ BW := bw (tb3 22 (by decide +kernel)) (by decide +kernel)
theorem m_503 : (Cond.selects "NoonValley$Valley" yX10_lineB yX10_lineB) ∈ BW := bw (tb3 23 (by decide +kernel)) (by decide +kernel)
theorem vX10_99 : LV RX10 99 RX10 yX10_lineB cX10_lineB 2 (some .int) 1 := ⟨m_501, m_502, m_503, m_11, m_504, rfl, by decide, by decide, by decide +kernel⟩
theorem dX10_neighbours_44 : decode cX10_neighbours 44 = .ok (.invokevirtual 99, 3) := DX10_neighbours _ _ _ rfl
theorem dX10_neighbours_47 : decode cX10_neighbours 47 = .ok (.iload_n 1, 1) := DX10_neighbours _ _ _ rfl
theorem dX10_neighbours_48 : decode cX10_neighbours 48 = .ok (.if_icmp .ne 13, 3) := DX10_neighbours _ _ _ rfl
theorem dX10_neighbours_61 : decode cX10_neighbours 61 = .ok (.iinc 3 1, 3) := DX10_neighbours _ _ _ rfl
theorem dX10_neighbours_64 : decode cX10_neighbours 64 = .ok (.goto (-60), 3) := DX10_neighbours _ _ _ rfl
theorem dX10_neighbours_51 : decode cX10_neighbours 51 = .ok (.iload_n 2, 1) := DX10_neighbours _ _ _ rfl
theorem dX10_neighbours_52 : decode cX10_neighbours 52 = .ok (.iconst 1, 1) := DX10_neighbours _ _ _ rfl
theorem dX10_neighbours_53 : decode cX10_neighbours 53 = .ok (.aload_n 0, 1) := DX10_neighbours _ _ _ rfl
theorem dX10_neighbours_54 : decode cX10_neighbours 54 = .ok (.iload_n 3, 1) := DX10_neighbours _ _ _ rfl
theorem dX10_neighbours_55 : decode cX10_neighbours 55 = .ok (.invokevirtual 95, 3) := DX10_neighbours _ _ _ rfl
theorem dX10_neighbours_58 : decode cX10_neighbours 58 = .ok (.ishl, 1) := DX10_neighbours _ _ _ rfl
theorem dX10_neighbours_59 : decode cX10_neighbours 59 = .ok (.ior, 1) := DX10_neighbours _ _ _ rfl
theorem dX10_neighbours_60 : decode cX10_neighbours 60 = .ok (.istore_n 2, 1) := DX10_neighbours _ _ _ rfl
theorem dX10_neighbours_32 : decode cX10_neighbours 32 = .ok (.iload_n 2, 1) := DX10_neighbours _ _ _ rfl
theorem dX10_neighbours_33 : decode cX10_neighbours 33 = .ok (.iconst 1, 1) := DX10_neighbours _ _ _ rfl
theorem dX10_neighbours_34 : decode cX10_neighbours 34 = .ok (.aload_n 0, 1) := DX10_neighbours _ _ _ rfl
theorem dX10_neighbours_35 : decode cX10_neighbours 35 = .ok (.iload_n 3, 1) := DX10_neighbours _ _ _ rfl
theorem dX10_neighbours_36 : decode cX10_neighbours 36 = .ok (.invokevirtual 99, 3) := DX10_neighbours _ _ _ rfl
theorem dX10_neighbours_39 : decode cX10_neighbours 39 = .ok (.ishl, 1) := DX10_neighbours _ _ _ rfl
theorem dX10_neighbours_40 : decode cX10_neighbours 40 = .ok (.ior, 1) := DX10_neighbours _ _ _ rfl
theorem dX10_neighbours_41 : decode cX10_neighbours 41 = .ok (.istore_n 2, 1) := DX10_neighbours _ _ _ rfl
theorem dX10_neighbours_20 : decode cX10_neighbours 20 = .ok (.goto 41, 3) := DX10_neighbours _ _ _ rfl
theorem m_894 : (Cond.code yX10_holdsTogether prog_12_method_23_code 5 (Option.some FieldType.boolean)) ∈ BW := bw (tb4 174 rfl) (by decide +kernel)
theorem dX10_holdsTogether_0 : decode cX10_holdsTogether 0 = .ok (.iconst 1, 1) := DX10_holdsTogether _ _ _ rfl
theorem dX10_holdsTogether_1 : decode cX10_holdsTogether 1 = .ok (.istore_n 1, 1) := DX10_holdsTogether _ _ _ rfl
theorem dX10_holdsTogether_2 : decode cX10_holdsTogether 2 = .ok (.iconst 1, 1) := DX10_holdsTogether _ _ _ rfl
theorem dX10_holdsTogether_3 : decode cX10_holdsTogether 3 = .ok (.istore_n 2, 1) := DX10_holdsTogether _ _ _ rfl
theorem dX10_holdsTogether_4 : decode cX10_holdsTogether 4 = .ok (.iload_n 2, 1) := DX10_holdsTogether _ _ _ rfl
theorem dX10_holdsTogether_5 : decode cX10_holdsTogether 5 = .ok (.aload_n 0, 1) := DX10_holdsTogether _ _ _ rfl
theorem dX10_holdsTogether_6 : decode cX10_holdsTogether 6 = .ok (.getfield 54, 3) := DX10_holdsTogether _ _ _ rfl
theorem dX10_holdsTogether_9 : decode cX10_holdsTogether 9 = .ok (.if_icmp .ge 49, 3) := DX10_holdsTogether _ _ _ rfl
theorem dX10_holdsTogether_58 : decode cX10_holdsTogether 58 = .ok (.iload_n 1, 1) := DX10_holdsTogether _ _ _ rfl
theorem dX10_holdsTogether_59 : decode cX10_holdsTogether 59 = .ok (.aload_n 0, 1) := DX10_holdsTogether _ _ _ rfl
theorem m_899 : (Cond.methodLink "NoonValley$Valley" 111 yX10_everyone) ∈ BW := bw (tb4 179 (by decide +kernel)) (by decide +kernel)
theorem m_675 : (Cond.instanceMethod yX10_everyone) ∈ BW := bw (tb3 195 (by decide +kernel)) (by decide +kernel)
theorem m_676 : (Cond.selects "NoonValley$Valley" yX10_everyone yX10_everyone) ∈ BW := bw (tb3 196 (by decide +kernel)) (by decide +kernel)
theorem vX10_111 : LV RX10 111 RX10 yX10_everyone cX10_everyone 1 (some .int) 0 := ⟨m_899, m_675, m_676, m_11, m_677, rfl, by decide, by decide, by decide +kernel⟩
theorem dX10_holdsTogether_60 : decode cX10_holdsTogether 60 = .ok (.invokevirtual 111, 3) := DX10_holdsTogether _ _ _ rfl
theorem dX10_holdsTogether_63 : decode cX10_holdsTogether 63 = .ok (.if_icmp .ne 7, 3) := DX10_holdsTogether _ _ _ rfl
theorem dX10_holdsTogether_70 : decode cX10_holdsTogether 70 = .ok (.iconst 0, 1) := DX10_holdsTogether _ _ _ rfl
theorem dX10_holdsTogether_71 : decode cX10_holdsTogether 71 = .ok (.ireturn, 1) := DX10_holdsTogether _ _ _ rfl
theorem dX10_holdsTogether_66 : decode cX10_holdsTogether 66 = .ok (.iconst 1, 1) := DX10_holdsTogether _ _ _ rfl
theorem dX10_holdsTogether_67 : decode cX10_holdsTogether 67 = .ok (.goto 4, 3) := DX10_holdsTogether _ _ _ rfl
theorem dX10_holdsTogether_12 : decode cX10_holdsTogether 12 = .ok (.iload_n 1, 1) := DX10_holdsTogether _ _ _ rfl
theorem dX10_holdsTogether_13 : decode cX10_holdsTogether 13 = .ok (.istore_n 3, 1) := DX10_holdsTogether _ _ _ rfl
theorem dX10_holdsTogether_14 : decode cX10_holdsTogether 14 = .ok (.iconst 0, 1) := DX10_holdsTogether _ _ _ rfl
theorem dX10_holdsTogether_15 : decode cX10_holdsTogether 15 = .ok (.istore 4, 2) := DX10_holdsTogether _ _ _ rfl
theorem dX10_holdsTogether_17 : decode cX10_holdsTogether 17 = .ok (.iload 4, 2) := DX10_holdsTogether _ _ _ rfl
theorem dX10_holdsTogether_19 : decode cX10_holdsTogether 19 = .ok (.aload_n 0, 1) := DX10_holdsTogether _ _ _ rfl
theorem dX10_holdsTogether_20 : decode cX10_holdsTogether 20 = .ok (.getfield 54, 3) := DX10_holdsTogether _ _ _ rfl
theorem dX10_holdsTogether_23 : decode cX10_holdsTogether 23 = .ok (.if_icmp .ge 27, 3) := DX10_holdsTogether _ _ _ rfl
theorem dX10_holdsTogether_50 : decode cX10_holdsTogether 50 = .ok (.iload_n 3, 1) := DX10_holdsTogether _ _ _ rfl
theorem dX10_holdsTogether_51 : decode cX10_holdsTogether 51 = .ok (.istore_n 1, 1) := DX10_holdsTogether _ _ _ rfl
theorem dX10_holdsTogether_52 : decode cX10_holdsTogether 52 = .ok (.iinc 2 1, 3) := DX10_holdsTogether _ _ _ rfl
theorem dX10_holdsTogether_55 : decode cX10_holdsTogether 55 = .ok (.goto (-51), 3) := DX10_holdsTogether _ _ _ rfl
theorem dX10_holdsTogether_26 : decode cX10_holdsTogether 26 = .ok (.iload_n 1, 1) := DX10_holdsTogether _ _ _ rfl
theorem dX10_holdsTogether_27 : decode cX10_holdsTogether 27 = .ok (.iload 4, 2) := DX10_holdsTogether _ _ _ rfl
theorem m_486 : (Cond.methodLinkNest "NoonValley$Valley" 76 yX11_has "NoonValley") ∈ NWS := nw (tb3 6 (by decide +kernel)) (by decide +kernel)
theorem vX10_76 : LSN RX10 76 "NoonValley" yX11_has cX11_has 2 (some .boolean) 2 := ⟨m_486, m_487, m_1, m_488, by decide, by decide, by decide +kernel⟩
theorem dX10_holdsTogether_29 : decode cX10_holdsTogether 29 = .ok (.invokestatic 76, 3) := DX10_holdsTogether _ _ _ rfl
theorem dX10_holdsTogether_32 : decode cX10_holdsTogether 32 = .ok (.ifCond .eq 12, 3) := DX10_holdsTogether _ _ _ rfl
theorem dX10_holdsTogether_44 : decode cX10_holdsTogether 44 = .ok (.iinc 4 1, 3) := DX10_holdsTogether _ _ _ rfl
theorem dX10_holdsTogether_47 : decode cX10_holdsTogether 47 = .ok (.goto (-30), 3) := DX10_holdsTogether _ _ _ rfl
theorem dX10_holdsTogether_35 : decode cX10_holdsTogether 35 = .ok (.iload_n 3, 1) := DX10_holdsTogether _ _ _ rfl
theorem dX10_holdsTogether_36 : decode cX10_holdsTogether 36 = .ok (.aload_n 0, 1) := DX10_holdsTogether _ _ _ rfl
theorem dX10_holdsTogether_37 : decode cX10_holdsTogether 37 = .ok (.iload 4, 2) := DX10_holdsTogether _ _ _ rfl
theorem m_895 : (Cond.methodLink "NoonValley$Valley" 108 yX10_neighbours) ∈ BW := bw (tb4 175 (by decide +kernel)) (by decide +kernel)
theorem m_896 : (Cond.instanceMethod yX10_neighbours) ∈ BW := bw (tb4 176 (by decide +kernel)) (by decide +kernel)
theorem m_897 : (Cond.selects "NoonValley$Valley" yX10_neighbours yX10_neighbours) ∈ BW := bw (tb4 177 (by decide +kernel)) (by decide +kernel)
theorem vX10_108 : LV RX10 108 RX10 yX10_neighbours cX10_neighbours 4 (some .int) 1 := ⟨m_895, m_896, m_897, m_11, m_898, rfl, by decide, by decide, by decide +kernel⟩
theorem dX10_holdsTogether_39 : decode cX10_holdsTogether 39 = .ok (.invokevirtual 108, 3) := DX10_holdsTogether _ _ _ rfl
theorem dX10_holdsTogether_42 : decode cX10_holdsTogether 42 = .ok (.ior, 1) := DX10_holdsTogether _ _ _ rfl
theorem dX10_holdsTogether_43 : decode cX10_holdsTogether 43 = .ok (.istore_n 3, 1) := DX10_holdsTogether _ _ _ rfl
set_option maxHeartbeats 4000000 in
set_option maxRecDepth 100000 in
theorem C_X10_lineFactG (l : Launch) (g : GG) (v v3 v4 v5 v6 v7 v8 v9 v10 v11 v12 v13 v15 : Nat) (pe lc de gl : Int32) (L : Nat → Int32) (i w : Nat) (hi : i < 12) (hw : w < 6) : MetI l g yX10_lineFact cX10_lineFact 3 (some .int) 0 0 0 [.ref v, .int (nI i), .int (nI w)] [(v, .inr (10, [.int pe, .int lc, .int de, .ref v3, .ref v4, .ref v5, .ref v6, .ref v7, .ref v8, .ref v9, .ref v10, .ref v11, .ref v12, .ref v13, .int gl, .ref v15])), (v9, .inl (g.2.1 1, 72, .inl L))] (fun r u => r = L (i * 6 + w) ∧ u = [(v, .inr (10, [.int pe, .int lc, .int de, .ref v3, .ref v4, .ref v5, .ref v6, .ref v7, .ref v8, .ref v9, .ref v10, .ref v11, .ref v12, .ref v13, .int gl, .ref v15])), (v9, .inl (g.2.1 1, 72, .inl L))]) := by
  refine MetI.of (own := RX10) rfl (by decide) (Nat.le_of_ble_eq_true rfl) ?_
  intro p e s m below meth c A ls args Q hQ X hr hin hW hl
  have hx := X.1
  have hb := X.2.1
  have hl : lv_has ls 3 [(0, .ref v), (1, .int (nI i)), (2, .int (nI w))] := hl
  refine lv_aload_n (pc := 0) hx hb dX10_lineFact_0 rfl (lv_at hl 0 rfl) ?_
  refine r_get X hW 0 ciX10 9 rfl (by decide) m_310 rfl rfl dX10_lineFact_1 ?_
  refine lv_iload_n (pc := 4) hx hb dX10_lineFact_4 rfl (lv_at hl 1 rfl) ?_
  refine lv_bipush (v := 6) (pc := 5) hx hb dX10_lineFact_5 (by decide) ?_
  refine lv_imul (pc := 7) hx hb dX10_lineFact_7 ?_
  refine lv_topi (fun v1 ev1 => ?_)
  obtain rfl : v1 = nI (i * 6) := ev1.trans (pk_mul _ _)
  refine lv_iload_n (pc := 8) hx hb dX10_lineFact_8 rfl (lv_at hl 2 rfl) ?_
  refine lv_iadd (pc := 9) hx hb dX10_lineFact_9 ?_
  refine lv_topi (fun v2 ev2 => ?_)
  obtain rfl : v2 = nI (i * 6 + w) := ev2.trans (nI_add _ _)
  refine r_iald X hW 1 rfl (vp_in_nI (by omega) (by decide)) dX10_lineFact_10 ?_
  refine lv_topi (fun v3 ev3 => ?_)
  obtain rfl : v3 = L (i * 6 + w) := ev3.trans (by rw [nI_clamp (by omega)])
  exact e_i X hQ hr hW (u := [(v, .inr (10, [.int pe, .int lc, .int de, .ref v3, .ref v4, .ref v5, .ref v6, .ref v7, .ref v8, .ref v9, .ref v10, .ref v11, .ref v12, .ref v13, .int gl, .ref v15])), (v9, .inl (g.2.1 1, 72, .inl L))]) [0, 1] rfl rfl (⟨rfl, rfl⟩) ⟨Nat.le_of_ble_eq_true rfl, Nat.le_of_ble_eq_true rfl⟩ dX10_lineFact_11

set_option maxHeartbeats 4000000 in
set_option maxRecDepth 100000 in
theorem C_X10_lineAG (l : Launch) (g : GG) (v v3 v4 v5 v6 v7 v8 v9 v10 v11 v12 v13 v15 : Nat) (pe lc de gl : Int32) (L : Nat → Int32) (i : Nat) (hi : i < 12) : MetI l g yX10_lineA cX10_lineA 2 (some .int) 1 0 0 [.ref v, .int (nI i)] [(v, .inr (10, [.int pe, .int lc, .int de, .ref v3, .ref v4, .ref v5, .ref v6, .ref v7, .ref v8, .ref v9, .ref v10, .ref v11, .ref v12, .ref v13, .int gl, .ref v15])), (v9, .inl (g.2.1 1, 72, .inl L))] (fun r u => r = L (i * 6) ∧ u = [(v, .inr (10, [.int pe, .int lc, .int de, .ref v3, .ref v4, .ref v5, .ref v6, .ref v7, .ref v8, .ref v9, .ref v10, .ref v11, .ref v12, .ref v13, .int gl, .ref v15])), (v9, .inl (g.2.1 1, 72, .inl L))]) := by
  refine MetI.of (own := RX10) rfl (by decide) (Nat.le_of_ble_eq_true rfl) ?_
  intro p e s m below meth c A ls args Q hQ X hr hin hW hl
  have hx := X.1
  have hb := X.2.1
  have hl : lv_has ls 2 [(0, .ref v), (1, .int (nI i))] := hl
  refine lv_aload_n (pc := 0) hx hb dX10_lineA_0 rfl (lv_at hl 0 rfl) ?_
  refine lv_iload_n (pc := 1) hx hb dX10_lineA_1 rfl (lv_at hl 1 rfl) ?_
  refine lv_iconst (v := 0) (pc := 2) hx hb dX10_lineA_2 (by decide) ?_
  refine c_Vi (pc := 3) (As := [.int (nI i), .int 0]) (rest := []) (wr := []) X hW 0 ciX10 rfl (C_X10_lineFactG l g v v3 v4 v5 v6 v7 v8 v9 v10 v11 v12 v13 v15 pe lc de gl L i 0 (by omega) (by decide)) vX10_88 [0, 1] [] rfl rfl rfl rfl rfl rfl hl.1 rfl (Nat.le_of_ble_eq_true rfl) ⟨Nat.le_of_ble_eq_true rfl, Nat.le_of_ble_eq_true rfl⟩ ⟨Nat.le_of_ble_eq_true rfl, Nat.le_of_ble_eq_true rfl⟩ dX10_lineA_3 (fun r1 u9 H locs hq hW => ?_)
  obtain ⟨rfl, rfl⟩ := hq
  have hW : WD g A s _ _ [(v, .inr (10, [.int pe, .int lc, .int de, .ref v3, .ref v4, .ref v5, .ref v6, .ref v7, .ref v8, .ref v9, .ref v10, .ref v11, .ref v12, .ref v13, .int gl, .ref v15])), (v9, .inl (g.2.1 1, 72, .inl L))] := hW
  exact e_i X hQ hr hW (u := [(v, .inr (10, [.int pe, .int lc, .int de, .ref v3, .ref v4, .ref v5, .ref v6, .ref v7, .ref v8, .ref v9, .ref v10, .ref v11, .ref v12, .ref v13, .int gl, .ref v15])), (v9, .inl (g.2.1 1, 72, .inl L))]) [0, 1] rfl rfl (⟨rfl, rfl⟩) ⟨Nat.le_of_ble_eq_true rfl, Nat.le_of_ble_eq_true rfl⟩ dX10_lineA_6

set_option maxHeartbeats 4000000 in
set_option maxRecDepth 100000 in
theorem C_X10_lineBG (l : Launch) (g : GG) (v v3 v4 v5 v6 v7 v8 v9 v10 v11 v12 v13 v15 : Nat) (pe lc de gl : Int32) (L : Nat → Int32) (i : Nat) (hi : i < 12) : MetI l g yX10_lineB cX10_lineB 2 (some .int) 1 0 0 [.ref v, .int (nI i)] [(v, .inr (10, [.int pe, .int lc, .int de, .ref v3, .ref v4, .ref v5, .ref v6, .ref v7, .ref v8, .ref v9, .ref v10, .ref v11, .ref v12, .ref v13, .int gl, .ref v15])), (v9, .inl (g.2.1 1, 72, .inl L))] (fun r u => r = L (i * 6 + 1) ∧ u = [(v, .inr (10, [.int pe, .int lc, .int de, .ref v3, .ref v4, .ref v5, .ref v6, .ref v7, .ref v8, .ref v9, .ref v10, .ref v11, .ref v12, .ref v13, .int gl, .ref v15])), (v9, .inl (g.2.1 1, 72, .inl L))]) := by
  refine MetI.of (own := RX10) rfl (by decide) (Nat.le_of_ble_eq_true rfl) ?_
  intro p e s m below meth c A ls args Q hQ X hr hin hW hl
  have hx := X.1
  have hb := X.2.1
  have hl : lv_has ls 2 [(0, .ref v), (1, .int (nI i))] := hl
  refine lv_aload_n (pc := 0) hx hb dX10_lineB_0 rfl (lv_at hl 0 rfl) ?_
  refine lv_iload_n (pc := 1) hx hb dX10_lineB_1 rfl (lv_at hl 1 rfl) ?_
  refine lv_iconst (v := 1) (pc := 2) hx hb dX10_lineB_2 (by decide) ?_
  refine c_Vi (pc := 3) (As := [.int (nI i), .int 1]) (rest := []) (wr := []) X hW 0 ciX10 rfl (C_X10_lineFactG l g v v3 v4 v5 v6 v7 v8 v9 v10 v11 v12 v13 v15 pe lc de gl L i 1 (by omega) (by decide)) vX10_88 [0, 1] [] rfl rfl rfl rfl rfl rfl hl.1 rfl (Nat.le_of_ble_eq_true rfl) ⟨Nat.le_of_ble_eq_true rfl, Nat.le_of_ble_eq_true rfl⟩ ⟨Nat.le_of_ble_eq_true rfl, Nat.le_of_ble_eq_true rfl⟩ dX10_lineB_3 (fun r1 u9 H locs hq hW => ?_)
  obtain ⟨rfl, rfl⟩ := hq
  have hW : WD g A s _ _ [(v, .inr (10, [.int pe, .int lc, .int de, .ref v3, .ref v4, .ref v5, .ref v6, .ref v7, .ref v8, .ref v9, .ref v10, .ref v11, .ref v12, .ref v13, .int gl, .ref v15])), (v9, .inl (g.2.1 1, 72, .inl L))] := hW
  exact e_i X hQ hr hW (u := [(v, .inr (10, [.int pe, .int lc, .int de, .ref v3, .ref v4, .ref v5, .ref v6, .ref v7, .ref v8, .ref v9, .ref v10, .ref v11, .ref v12, .ref v13, .int gl, .ref v15])), (v9, .inl (g.2.1 1, 72, .inl L))]) [0, 1] rfl rfl (⟨rfl, rfl⟩) ⟨Nat.le_of_ble_eq_true rfl, Nat.le_of_ble_eq_true rfl⟩ dX10_lineB_6

set_option maxHeartbeats 4000000 in
set_option maxRecDepth 100000 in
theorem C_X10_isOneWayG (l : Launch) (g : GG) (v v3 v4 v5 v6 v7 v8 v9 v10 v11 v12 v13 v15 : Nat) (pe lc de gl : Int32) (L : Nat → Int32) (i : Nat) (hi : i < 12) : MetI l g yX10_isOneWay cX10_isOneWay 2 (some .boolean) 1 0 0 [.ref v, .int (nI i)] [(v, .inr (10, [.int pe, .int lc, .int de, .ref v3, .ref v4, .ref v5, .ref v6, .ref v7, .ref v8, .ref v9, .ref v10, .ref v11, .ref v12, .ref v13, .int gl, .ref v15])), (v9, .inl (g.2.1 1, 72, .inl L))] (fun r u => r = b1 (L (i * 6 + 4)) ∧ u = [(v, .inr (10, [.int pe, .int lc, .int de, .ref v3, .ref v4, .ref v5, .ref v6, .ref v7, .ref v8, .ref v9, .ref v10, .ref v11, .ref v12, .ref v13, .int gl, .ref v15])), (v9, .inl (g.2.1 1, 72, .inl L))]) := by
  refine MetI.of (own := RX10) rfl (by decide) (Nat.le_of_ble_eq_true rfl) ?_
  intro p e s m below meth c A ls args Q hQ X hr hin hW hl
  have hx := X.1
  have hb := X.2.1
  have hl : lv_has ls 2 [(0, .ref v), (1, .int (nI i))] := hl
  refine lv_aload_n (pc := 0) hx hb dX10_isOneWay_0 rfl (lv_at hl 0 rfl) ?_
  refine lv_iload_n (pc := 1) hx hb dX10_isOneWay_1 rfl (lv_at hl 1 rfl) ?_
  refine lv_iconst (v := 4) (pc := 2) hx hb dX10_isOneWay_2 (by decide) ?_
  refine c_Vi (pc := 3) (As := [.int (nI i), .int 4]) (rest := []) (wr := []) X hW 0 ciX10 rfl (C_X10_lineFactG l g v v3 v4 v5 v6 v7 v8 v9 v10 v11 v12 v13 v15 pe lc de gl L i 4 (by omega) (by decide)) vX10_88 [0, 1] [] rfl rfl rfl rfl rfl rfl hl.1 rfl (Nat.le_of_ble_eq_true rfl) ⟨Nat.le_of_ble_eq_true rfl, Nat.le_of_ble_eq_true rfl⟩ ⟨Nat.le_of_ble_eq_true rfl, Nat.le_of_ble_eq_true rfl⟩ dX10_isOneWay_3 (fun r1 u9 H locs hq hW => ?_)
  obtain ⟨rfl, rfl⟩ := hq
  have hW : WD g A s _ _ [(v, .inr (10, [.int pe, .int lc, .int de, .ref v3, .ref v4, .ref v5, .ref v6, .ref v7, .ref v8, .ref v9, .ref v10, .ref v11, .ref v12, .ref v13, .int gl, .ref v15])), (v9, .inl (g.2.1 1, 72, .inl L))] := hW
  refine lv_iconst (v := 1) (pc := 6) hx hb dX10_isOneWay_6 (by decide) ?_
  refine lv_icmp_ne (tgt := 14) (pc := 7) hx hb dX10_isOneWay_7 rfl (fun c2 => ?_) (fun c2 => ?_)
  · refine lv_iconst (v := 0) (pc := 14) hx hb dX10_isOneWay_14 (by decide) ?_
    exact e_z X hQ hr hW (u := [(v, .inr (10, [.int pe, .int lc, .int de, .ref v3, .ref v4, .ref v5, .ref v6, .ref v7, .ref v8, .ref v9, .ref v10, .ref v11, .ref v12, .ref v13, .int gl, .ref v15])), (v9, .inl (g.2.1 1, 72, .inl L))]) rfl [0, 1] rfl rfl (⟨(if_neg c2).symm, rfl⟩) ⟨Nat.le_of_ble_eq_true rfl, Nat.le_of_ble_eq_true rfl⟩ dX10_isOneWay_15
  · refine lv_iconst (v := 1) (pc := 10) hx hb dX10_isOneWay_10 (by decide) ?_
    refine lv_goto (tgt := 15) (pc := 11) hx hb dX10_isOneWay_11 rfl ?_
    exact e_z X hQ hr hW (u := [(v, .inr (10, [.int pe, .int lc, .int de, .ref v3, .ref v4, .ref v5, .ref v6, .ref v7, .ref v8, .ref v9, .ref v10, .ref v11, .ref v12, .ref v13, .int gl, .ref v15])), (v9, .inl (g.2.1 1, 72, .inl L))]) rfl [0, 1] rfl rfl (⟨(if_pos c2).symm, rfl⟩) ⟨Nat.le_of_ble_eq_true rfl, Nat.le_of_ble_eq_true rfl⟩ dX10_isOneWay_15

set_option maxHeartbeats 4000000 in
set_option maxRecDepth 100000 in
theorem C_X10_everyoneG (l : Launch) (g : GG) (v v3 v4 v5 v6 v7 v8 v9 v10 v11 v12 v13 v15 : Nat) (pe lc de gl : Int32) : MetI l g yX10_everyone cX10_everyone 1 (some .int) 0 0 0 [.ref v] [(v, .inr (10, [.int pe, .int lc, .int de, .ref v3, .ref v4, .ref v5, .ref v6, .ref v7, .ref v8, .ref v9, .ref v10, .ref v11, .ref v12, .ref v13, .int gl, .ref v15]))] (fun r u => r = evy pe ∧ u = [(v, .inr (10, [.int pe, .int lc, .int de, .ref v3, .ref v4, .ref v5, .ref v6, .ref v7, .ref v8, .ref v9, .ref v10, .ref v11, .ref v12, .ref v13, .int gl, .ref v15]))]) := by
  refine MetI.of (own := RX10) rfl (by decide) (Nat.le_of_ble_eq_true rfl) ?_
  intro p e s m below meth c A ls args Q hQ X hr hin hW hl
  have hx := X.1
  have hb := X.2.1
  have hl : lv_has ls 1 [(0, .ref v)] := hl
  refine lv_iconst (v := 1) (pc := 0) hx hb dX10_everyone_0 (by decide) ?_
  refine lv_aload_n (pc := 1) hx hb dX10_everyone_1 rfl (lv_at hl 0 rfl) ?_
  refine r_get X hW 0 ciX10 0 rfl (by decide) m_272 rfl rfl dX10_everyone_2 ?_
  refine lv_ishl (pc := 5) hx hb dX10_everyone_5 ?_
  refine lv_iconst (v := 1) (pc := 6) hx hb dX10_everyone_6 (by decide) ?_
  refine lv_isub (pc := 7) hx hb dX10_everyone_7 ?_
  refine lv_topi (fun v1 ev1 => ?_)
  obtain rfl : v1 = evy pe := ev1.trans (rfl)
  exact e_i X hQ hr hW (u := [(v, .inr (10, [.int pe, .int lc, .int de, .ref v3, .ref v4, .ref v5, .ref v6, .ref v7, .ref v8, .ref v9, .ref v10, .ref v11, .ref v12, .ref v13, .int gl, .ref v15]))]) [0] rfl rfl (⟨rfl, rfl⟩) ⟨Nat.le_of_ble_eq_true rfl, Nat.le_of_ble_eq_true rfl⟩ dX10_everyone_8

set_option maxHeartbeats 4000000 in
set_option maxRecDepth 100000 in
theorem C_X10_neighboursG (l : Launch) (g : GG) (v v3 v4 v5 v6 v7 v8 v9 v10 v11 v12 v13 v15 : Nat) (pe de gl : Int32) (L : Nat → Int32) (lc : Nat) (one : Int32) (hlc : lc ≤ 12) : MetI l g yX10_neighbours cX10_neighbours 4 (some .int) 2 0 0 [.ref v, .int one] [(v, .inr (10, [.int pe, .int (nI lc), .int de, .ref v3, .ref v4, .ref v5, .ref v6, .ref v7, .ref v8, .ref v9, .ref v10, .ref v11, .ref v12, .ref v13, .int gl, .ref v15])), (v9, .inl (g.2.1 1, 72, .inl L))] (fun r u => r = nbs L one lc ∧ u = [(v, .inr (10, [.int pe, .int (nI lc), .int de, .ref v3, .ref v4, .ref v5, .ref v6, .ref v7, .ref v8, .ref v9, .ref v10, .ref v11, .ref v12, .ref v13, .int gl, .ref v15])), (v9, .inl (g.2.1 1, 72, .inl L))]) := by
  refine MetI.of (own := RX10) rfl (by decide) (Nat.le_of_ble_eq_true rfl) ?_
  intro p e s m below meth c A ls args Q hQ X hr hin hW hl
  have hx := X.1
  have hb := X.2.1
  have hl : lv_has ls 4 [(0, .ref v), (1, .int one)] := hl
  refine lv_iconst (v := 0) (pc := 0) hx hb dX10_neighbours_0 (by decide) ?_
  refine lv_istore_n (lv' := [(2, .int 0), (0, .ref v), (1, .int one)]) (pc := 1) hx hb dX10_neighbours_1 rfl hl (by decide) rfl (fun ls hl => ?_)
  refine lv_iconst (v := 0) (pc := 2) hx hb dX10_neighbours_2 (by decide) ?_
  refine lv_istore_n (lv' := [(3, .int 0), (2, .int 0), (0, .ref v), (1, .int one)]) (pc := 3) hx hb dX10_neighbours_3 rfl hl (by decide) rfl (fun ls hl => ?_)
  have loop1 : ∀ (fu : Nat) (i : Nat) (st : Int32), (lc < fu + i) → (i ≤ lc) → (st = nbs L one i) → ∀ (H : Heap) (locs : List Loc) (ls : Array Slot), WD g A s H locs [(v, .inr (10, [.int pe, .int (nI lc), .int de, .ref v3, .ref v4, .ref v5, .ref v6, .ref v7, .ref v8, .ref v9, .ref v10, .ref v11, .ref v12, .ref v13, .int gl, .ref v15])), (v9, .inl (g.2.1 1, 72, .inl L))] → lv_has ls 4 [(0, .ref v), (1, .int one), (2, .int st), (3, .int (nI i))] → W p l e (RM 2 0 0) s m args below meth c H locs 0 0 Q (F0 m 4 ls []) := by
    intro fu
    induction fu with
    | zero =>
      intro i st hm hi hst
      exact absurd hm (by omega)
    | succ fu ih1 =>
      intro i st hm hi hst H locs ls hW hl
      refine lv_iload_n (pc := 4) hx hb dX10_neighbours_4 rfl (lv_at hl 3 rfl) ?_
      refine lv_aload_n (pc := 5) hx hb dX10_neighbours_5 rfl (lv_at hl 0 rfl) ?_
      refine r_get X hW 0 ciX10 1 rfl (by decide) m_280 rfl rfl dX10_neighbours_6 ?_
      refine lv_icmp_ge (tgt := 67) (pc := 9) hx hb dX10_neighbours_9 rfl (fun c1 => ?_) (fun c1 => ?_)
      · have hil : i = lc := Nat.le_antisymm hi (ge_t (by omega) (by omega) c1)
        refine lv_iload_n (pc := 67) hx hb dX10_neighbours_67 rfl (lv_at hl 2 rfl) ?_
        exact e_i X hQ hr hW (u := [(v, .inr (10, [.int pe, .int (nI lc), .int de, .ref v3, .ref v4, .ref v5, .ref v6, .ref v7, .ref v8, .ref v9, .ref v10, .ref v11, .ref v12, .ref v13, .int gl, .ref v15])), (v9, .inl (g.2.1 1, 72, .inl L))]) [0, 1] rfl rfl (⟨by rw [hst, hil], rfl⟩) ⟨Nat.le_of_ble_eq_true rfl, Nat.le_of_ble_eq_true rfl⟩ dX10_neighbours_68
      · have hil : i < lc := ge_f (by omega) (by omega) c1
        refine lv_aload_n (pc := 12) hx hb dX10_neighbours_12 rfl (lv_at hl 0 rfl) ?_
        refine lv_iload_n (pc := 13) hx hb dX10_neighbours_13 rfl (lv_at hl 3 rfl) ?_
        refine c_Vi (pc := 14) (As := [.int (nI i)]) (rest := []) (wr := []) X hW 0 ciX10 rfl (C_X10_isOneWayG l g v v3 v4 v5 v6 v7 v8 v9 v10 v11 v12 v13 v15 pe (nI lc) de gl L i (by omega)) vX10_105 [0, 1] [] rfl rfl rfl rfl rfl rfl hl.1 rfl (Nat.le_of_ble_eq_true rfl) ⟨Nat.le_of_ble_eq_true rfl, Nat.le_of_ble_eq_true rfl⟩ ⟨Nat.le_of_ble_eq_true rfl, Nat.le_of_ble_eq_true rfl⟩ dX10_neighbours_14 (fun r2 u9 H locs hq hW => ?_)
        obtain ⟨rfl, rfl⟩ := hq
        have hW : WD g A s _ _ [(v, .inr (10, [.int pe, .int (nI lc), .int de, .ref v3, .ref v4, .ref v5, .ref v6, .ref v7, .ref v8, .ref v9, .ref v10, .ref v11, .ref v12, .ref v13, .int gl, .ref v15])), (v9, .inl (g.2.1 1, 72, .inl L))] := hW
        refine lv_if_eq (tgt := 23) (pc := 17) hx hb dX10_neighbours_17 rfl (fun c3 => ?_) (fun c3 => ?_)
        · refine lv_aload_n (pc := 23) hx hb dX10_neighbours_23 rfl (lv_at hl 0 rfl) ?_
          refine lv_iload_n (pc := 24) hx hb dX10_neighbours_24 rfl (lv_at hl 3 rfl) ?_
          refine c_Vi (pc := 25) (As := [.int (nI i)]) (rest := []) (wr := []) X hW 0 ciX10 rfl (C_X10_lineAG l g v v3 v4 v5 v6 v7 v8 v9 v10 v11 v12 v13 v15 pe (nI lc) de gl L i (by omega)) vX10_95 [0, 1] [] rfl rfl rfl rfl rfl rfl hl.1 rfl (Nat.le_of_ble_eq_true rfl) ⟨Nat.le_of_ble_eq_true rfl, Nat.le_of_ble_eq_true rfl⟩ ⟨Nat.le_of_ble_eq_true rfl, Nat.le_of_ble_eq_true rfl⟩ dX10_neighbours_25 (fun r4 u9 H locs hq hW => ?_)
          obtain ⟨rfl, rfl⟩ := hq
          have hW : WD g A s _ _ [(v, .inr (10, [.int pe, .int (nI lc), .int de, .ref v3, .ref v4, .ref v5, .ref v6, .ref v7, .ref v8, .ref v9, .ref v10, .ref v11, .ref v12, .ref v13, .int gl, .ref v15])), (v9, .inl (g.2.1 1, 72, .inl L))] := hW
          refine lv_iload_n (pc := 28) hx hb dX10_neighbours_28 rfl (lv_at hl 1 rfl) ?_
          refine lv_icmp_ne (tgt := 42) (pc := 29) hx hb dX10_neighbours_29 rfl (fun c5 => ?_) (fun c5 => ?_)
          · refine lv_aload_n (pc := 42) hx hb dX10_neighbours_42 rfl (lv_at hl 0 rfl) ?_
            refine lv_iload_n (pc := 43) hx hb dX10_neighbours_43 rfl (lv_at hl 3 rfl) ?_
            refine c_Vi (pc := 44) (As := [.int (nI i)]) (rest := []) (wr := []) X hW 0 ciX10 rfl (C_X10_lineBG l g v v3 v4 v5 v6 v7 v8 v9 v10 v11 v12 v13 v15 pe (nI lc) de gl L i (by omega)) vX10_99 [0, 1] [] rfl rfl rfl rfl rfl rfl hl.1 rfl (Nat.le_of_ble_eq_true rfl) ⟨Nat.le_of_ble_eq_true rfl, Nat.le_of_ble_eq_true rfl⟩ ⟨Nat.le_of_ble_eq_true rfl, Nat.le_of_ble_eq_true rfl⟩ dX10_neighbours_44 (fun r6 u9 H locs hq hW => ?_)
            obtain ⟨rfl, rfl⟩ := hq
            have hW : WD g A s _ _ [(v, .inr (10, [.int pe, .int (nI lc), .int de, .ref v3, .ref v4, .ref v5, .ref v6, .ref v7, .ref v8, .ref v9, .ref v10, .ref v11, .ref v12, .ref v13, .int gl, .ref v15])), (v9, .inl (g.2.1 1, 72, .inl L))] := hW
            refine lv_iload_n (pc := 47) hx hb dX10_neighbours_47 rfl (lv_at hl 1 rfl) ?_
            refine lv_icmp_ne (tgt := 61) (pc := 48) hx hb dX10_neighbours_48 rfl (fun c7 => ?_) (fun c7 => ?_)
            · refine lv_iinc (v := nI (i + 1)) (lv' := [(3, .int (nI (i + 1))), (0, .ref v), (1, .int one), (2, .int st)]) (pc := 61) hx hb dX10_neighbours_61 hl (k := 3) rfl ((nI_succ i).symm) (by decide) rfl (fun ls hl => ?_)
              refine lv_goto (tgt := 4) (pc := 64) hx hb dX10_neighbours_64 rfl ?_
              have hW : WD g A s _ _ [(v, .inr (10, [.int pe, .int (nI lc), .int de, .ref v3, .ref v4, .ref v5, .ref v6, .ref v7, .ref v8, .ref v9, .ref v10, .ref v11, .ref v12, .ref v13, .int gl, .ref v15])), (v9, .inl (g.2.1 1, 72, .inl L))] := hW.pick [0, 1] rfl rfl
              exact ih1 (i + 1) st (by omega) (by omega) (by rw [nbs, nst, ← hst]; simp only [c3, c5, c7, if_true, if_false, not_true_eq_false, not_false_eq_true]) _ _ _ hW (lv_sub hl [1, 2, 3, 0] rfl)
            · refine lv_iload_n (pc := 51) hx hb dX10_neighbours_51 rfl (lv_at hl 2 rfl) ?_
              refine lv_iconst (v := 1) (pc := 52) hx hb dX10_neighbours_52 (by decide) ?_
              refine lv_aload_n (pc := 53) hx hb dX10_neighbours_53 rfl (lv_at hl 0 rfl) ?_
              refine lv_iload_n (pc := 54) hx hb dX10_neighbours_54 rfl (lv_at hl 3 rfl) ?_
              refine c_Vi (pc := 55) (As := [.int (nI i)]) (rest := [.int 1, .int st]) (wr := []) X hW 0 ciX10 rfl (C_X10_lineAG l g v v3 v4 v5 v6 v7 v8 v9 v10 v11 v12 v13 v15 pe (nI lc) de gl L i (by omega)) vX10_95 [0, 1] [] rfl rfl rfl rfl rfl rfl hl.1 rfl (Nat.le_of_ble_eq_true rfl) ⟨Nat.le_of_ble_eq_true rfl, Nat.le_of_ble_eq_true rfl⟩ ⟨Nat.le_of_ble_eq_true rfl, Nat.le_of_ble_eq_true rfl⟩ dX10_neighbours_55 (fun r8 u9 H locs hq hW => ?_)
              obtain ⟨rfl, rfl⟩ := hq
              have hW : WD g A s _ _ [(v, .inr (10, [.int pe, .int (nI lc), .int de, .ref v3, .ref v4, .ref v5, .ref v6, .ref v7, .ref v8, .ref v9, .ref v10, .ref v11, .ref v12, .ref v13, .int gl, .ref v15])), (v9, .inl (g.2.1 1, 72, .inl L))] := hW
              refine lv_ishl (pc := 58) hx hb dX10_neighbours_58 ?_
              refine lv_topi (fun uv9 euv9 => ?_)
              obtain rfl : uv9 = (1 : Int32) <<< (L (i * 6) &&& 31) := euv9.trans (rfl)
              refine lv_ior (pc := 59) hx hb dX10_neighbours_59 ?_
              refine lv_istore_n (lv' := [(2, .int (st ||| ((1 : Int32) <<< (L (i * 6) &&& 31)))), (0, .ref v), (1, .int one), (3, .int (nI i))]) (pc := 60) hx hb dX10_neighbours_60 rfl hl (by decide) rfl (fun ls hl => ?_)
              refine lv_iinc (v := nI (i + 1)) (lv' := [(3, .int (nI (i + 1))), (2, .int (st ||| ((1 : Int32) <<< (L (i * 6) &&& 31)))), (0, .ref v), (1, .int one)]) (pc := 61) hx hb dX10_neighbours_61 hl (k := 3) rfl ((nI_succ i).symm) (by decide) rfl (fun ls hl => ?_)
              refine lv_goto (tgt := 4) (pc := 64) hx hb dX10_neighbours_64 rfl ?_
              have hW : WD g A s _ _ [(v, .inr (10, [.int pe, .int (nI lc), .int de, .ref v3, .ref v4, .ref v5, .ref v6, .ref v7, .ref v8, .ref v9, .ref v10, .ref v11, .ref v12, .ref v13, .int gl, .ref v15])), (v9, .inl (g.2.1 1, 72, .inl L))] := hW.pick [0, 1] rfl rfl
              exact ih1 (i + 1) (st ||| ((1 : Int32) <<< (L (i * 6) &&& 31))) (by omega) (by omega) (by rw [nbs, nst, ← hst]; simp only [c3, c5, c7, if_true, if_false, not_true_eq_false, not_false_eq_true]) _ _ _ hW (lv_sub hl [2, 3, 1, 0] rfl)
          · refine lv_iload_n (pc := 32) hx hb dX10_neighbours_32 rfl (lv_at hl 2 rfl) ?_
            refine lv_iconst (v := 1) (pc := 33) hx hb dX10_neighbours_33 (by decide) ?_
            refine lv_aload_n (pc := 34) hx hb dX10_neighbours_34 rfl (lv_at hl 0 rfl) ?_
            refine lv_iload_n (pc := 35) hx hb dX10_neighbours_35 rfl (lv_at hl 3 rfl) ?_
            refine c_Vi (pc := 36) (As := [.int (nI i)]) (rest := [.int 1, .int st]) (wr := []) X hW 0 ciX10 rfl (C_X10_lineBG l g v v3 v4 v5 v6 v7 v8 v9 v10 v11 v12 v13 v15 pe (nI lc) de gl L i (by omega)) vX10_99 [0, 1] [] rfl rfl rfl rfl rfl rfl hl.1 rfl (Nat.le_of_ble_eq_true rfl) ⟨Nat.le_of_ble_eq_true rfl, Nat.le_of_ble_eq_true rfl⟩ ⟨Nat.le_of_ble_eq_true rfl, Nat.le_of_ble_eq_true rfl⟩ dX10_neighbours_36 (fun r10 u9 H locs hq hW => ?_)
            obtain ⟨rfl, rfl⟩ := hq
            have hW : WD g A s _ _ [(v, .inr (10, [.int pe, .int (nI lc), .int de, .ref v3, .ref v4, .ref v5, .ref v6, .ref v7, .ref v8, .ref v9, .ref v10, .ref v11, .ref v12, .ref v13, .int gl, .ref v15])), (v9, .inl (g.2.1 1, 72, .inl L))] := hW
            refine lv_ishl (pc := 39) hx hb dX10_neighbours_39 ?_
            refine lv_topi (fun uv11 euv11 => ?_)
            obtain rfl : uv11 = (1 : Int32) <<< (L (i * 6 + 1) &&& 31) := euv11.trans (rfl)
            refine lv_ior (pc := 40) hx hb dX10_neighbours_40 ?_
            refine lv_istore_n (lv' := [(2, .int (st ||| ((1 : Int32) <<< (L (i * 6 + 1) &&& 31)))), (0, .ref v), (1, .int one), (3, .int (nI i))]) (pc := 41) hx hb dX10_neighbours_41 rfl hl (by decide) rfl (fun ls hl => ?_)
            refine lv_aload_n (pc := 42) hx hb dX10_neighbours_42 rfl (lv_at hl 1 rfl) ?_
            refine lv_iload_n (pc := 43) hx hb dX10_neighbours_43 rfl (lv_at hl 3 rfl) ?_
            refine c_Vi (pc := 44) (As := [.int (nI i)]) (rest := []) (wr := []) X hW 0 ciX10 rfl (C_X10_lineBG l g v v3 v4 v5 v6 v7 v8 v9 v10 v11 v12 v13 v15 pe (nI lc) de gl L i (by omega)) vX10_99 [0, 1] [] rfl rfl rfl rfl rfl rfl hl.1 rfl (Nat.le_of_ble_eq_true rfl) ⟨Nat.le_of_ble_eq_true rfl, Nat.le_of_ble_eq_true rfl⟩ ⟨Nat.le_of_ble_eq_true rfl, Nat.le_of_ble_eq_true rfl⟩ dX10_neighbours_44 (fun r12 u9 H locs hq hW => ?_)
            obtain ⟨rfl, rfl⟩ := hq
            have hW : WD g A s _ _ [(v, .inr (10, [.int pe, .int (nI lc), .int de, .ref v3, .ref v4, .ref v5, .ref v6, .ref v7, .ref v8, .ref v9, .ref v10, .ref v11, .ref v12, .ref v13, .int gl, .ref v15])), (v9, .inl (g.2.1 1, 72, .inl L))] := hW
            refine lv_iload_n (pc := 47) hx hb dX10_neighbours_47 rfl (lv_at hl 2 rfl) ?_
            refine lv_icmp_ne (tgt := 61) (pc := 48) hx hb dX10_neighbours_48 rfl (fun c13 => ?_) (fun c13 => ?_)
            · refine lv_iinc (v := nI (i + 1)) (lv' := [(3, .int (nI (i + 1))), (2, .int (st ||| ((1 : Int32) <<< (L (i * 6 + 1) &&& 31)))), (0, .ref v), (1, .int one)]) (pc := 61) hx hb dX10_neighbours_61 hl (k := 3) rfl ((nI_succ i).symm) (by decide) rfl (fun ls hl => ?_)
              refine lv_goto (tgt := 4) (pc := 64) hx hb dX10_neighbours_64 rfl ?_
              have hW : WD g A s _ _ [(v, .inr (10, [.int pe, .int (nI lc), .int de, .ref v3, .ref v4, .ref v5, .ref v6, .ref v7, .ref v8, .ref v9, .ref v10, .ref v11, .ref v12, .ref v13, .int gl, .ref v15])), (v9, .inl (g.2.1 1, 72, .inl L))] := hW.pick [0, 1] rfl rfl
              exact ih1 (i + 1) (st ||| ((1 : Int32) <<< (L (i * 6 + 1) &&& 31))) (by omega) (by omega) (by rw [nbs, nst, ← hst]; simp only [c3, c5, c13, if_true, if_false, not_true_eq_false, not_false_eq_true]) _ _ _ hW (lv_sub hl [2, 3, 1, 0] rfl)
            · refine lv_iload_n (pc := 51) hx hb dX10_neighbours_51 rfl (lv_at hl 0 rfl) ?_
              refine lv_iconst (v := 1) (pc := 52) hx hb dX10_neighbours_52 (by decide) ?_
              refine lv_aload_n (pc := 53) hx hb dX10_neighbours_53 rfl (lv_at hl 1 rfl) ?_
              refine lv_iload_n (pc := 54) hx hb dX10_neighbours_54 rfl (lv_at hl 3 rfl) ?_
              refine c_Vi (pc := 55) (As := [.int (nI i)]) (rest := [.int 1, .int (st ||| ((1 : Int32) <<< (L (i * 6 + 1) &&& 31)))]) (wr := []) X hW 0 ciX10 rfl (C_X10_lineAG l g v v3 v4 v5 v6 v7 v8 v9 v10 v11 v12 v13 v15 pe (nI lc) de gl L i (by omega)) vX10_95 [0, 1] [] rfl rfl rfl rfl rfl rfl hl.1 rfl (Nat.le_of_ble_eq_true rfl) ⟨Nat.le_of_ble_eq_true rfl, Nat.le_of_ble_eq_true rfl⟩ ⟨Nat.le_of_ble_eq_true rfl, Nat.le_of_ble_eq_true rfl⟩ dX10_neighbours_55 (fun r14 u9 H locs hq hW => ?_)
              obtain ⟨rfl, rfl⟩ := hq
              have hW : WD g A s _ _ [(v, .inr (10, [.int pe, .int (nI lc), .int de, .ref v3, .ref v4, .ref v5, .ref v6, .ref v7, .ref v8, .ref v9, .ref v10, .ref v11, .ref v12, .ref v13, .int gl, .ref v15])), (v9, .inl (g.2.1 1, 72, .inl L))] := hW
              refine lv_ishl (pc := 58) hx hb dX10_neighbours_58 ?_
              refine lv_topi (fun uv15 euv15 => ?_)
              obtain rfl : uv15 = (1 : Int32) <<< (L (i * 6) &&& 31) := euv15.trans (rfl)
              refine lv_ior (pc := 59) hx hb dX10_neighbours_59 ?_
              refine lv_topi (fun uv16 euv16 => ?_)
              refine lv_istore_n (lv' := [(2, .int uv16), (0, .ref v), (1, .int one), (3, .int (nI i))]) (pc := 60) hx hb dX10_neighbours_60 rfl hl (by decide) rfl (fun ls hl => ?_)
              refine lv_iinc (v := nI (i + 1)) (lv' := [(3, .int (nI (i + 1))), (2, .int uv16), (0, .ref v), (1, .int one)]) (pc := 61) hx hb dX10_neighbours_61 hl (k := 3) rfl ((nI_succ i).symm) (by decide) rfl (fun ls hl => ?_)
              refine lv_goto (tgt := 4) (pc := 64) hx hb dX10_neighbours_64 rfl ?_
              have hW : WD g A s _ _ [(v, .inr (10, [.int pe, .int (nI lc), .int de, .ref v3, .ref v4, .ref v5, .ref v6, .ref v7, .ref v8, .ref v9, .ref v10, .ref v11, .ref v12, .ref v13, .int gl, .ref v15])), (v9, .inl (g.2.1 1, 72, .inl L))] := hW.pick [0, 1] rfl rfl
              exact ih1 (i + 1) uv16 (by omega) (by omega) (by rw [euv16, nbs, nst, ← hst]; simp only [c3, c5, c13, if_true, if_false, not_true_eq_false, not_false_eq_true]) _ _ _ hW (lv_sub hl [2, 3, 1, 0] rfl)
        · refine lv_goto (tgt := 61) (pc := 20) hx hb dX10_neighbours_20 rfl ?_
          refine lv_iinc (v := nI (i + 1)) (lv' := [(3, .int (nI (i + 1))), (0, .ref v), (1, .int one), (2, .int st)]) (pc := 61) hx hb dX10_neighbours_61 hl (k := 3) rfl ((nI_succ i).symm) (by decide) rfl (fun ls hl => ?_)
          refine lv_goto (tgt := 4) (pc := 64) hx hb dX10_neighbours_64 rfl ?_
          have hW : WD g A s _ _ [(v, .inr (10, [.int pe, .int (nI lc), .int de, .ref v3, .ref v4, .ref v5, .ref v6, .ref v7, .ref v8, .ref v9, .ref v10, .ref v11, .ref v12, .ref v13, .int gl, .ref v15])), (v9, .inl (g.2.1 1, 72, .inl L))] := hW.pick [0, 1] rfl rfl
          exact ih1 (i + 1) st (by omega) (by omega) (by rw [nbs, nst, ← hst]; simp only [c3, if_true, if_false, not_true_eq_false, not_false_eq_true]) _ _ _ hW (lv_sub hl [1, 2, 3, 0] rfl)
  exact loop1 (lc + 1) 0 0 (by omega) (Nat.zero_le _) rfl _ _ _ hW (lv_sub hl [2, 3, 1, 0] rfl)

set_option maxHeartbeats 4000000 in
set_option maxRecDepth 100000 in
theorem C_X10_holdsG (l : Launch) (g : GG) (v v3 v4 v5 v6 v7 v8 v9 v10 v11 v12 v13 v15 : Nat) (de gl : Int32) (L : Nat → Int32) (lc pp : Nat) (hlc : lc ≤ 12) (hpp : pp ≤ 7) : MetI l g yX10_holdsTogether cX10_holdsTogether 5 (some .boolean) 3 0 0 [.ref v] [(v, .inr (10, [.int (nI pp), .int (nI lc), .int de, .ref v3, .ref v4, .ref v5, .ref v6, .ref v7, .ref v8, .ref v9, .ref v10, .ref v11, .ref v12, .ref v13, .int gl, .ref v15])), (v9, .inl (g.2.1 1, 72, .inl L))] (fun r u => r = holds L lc pp ∧ u = [(v, .inr (10, [.int (nI pp), .int (nI lc), .int de, .ref v3, .ref v4, .ref v5, .ref v6, .ref v7, .ref v8, .ref v9, .ref v10, .ref v11, .ref v12, .ref v13, .int gl, .ref v15])), (v9, .inl (g.2.1 1, 72, .inl L))]) := by
  refine MetI.of (own := RX10) rfl (by decide) (Nat.le_of_ble_eq_true rfl) ?_
  intro p e s m below meth c A ls args Q hQ X hr hin hW hl
  have hx := X.1
  have hb := X.2.1
  have hl : lv_has ls 5 [(0, .ref v)] := hl
  refine lv_iconst (v := 1) (pc := 0) hx hb dX10_holdsTogether_0 (by decide) ?_
  refine lv_istore_n (lv' := [(1, .int 1), (0, .ref v)]) (pc := 1) hx hb dX10_holdsTogether_1 rfl hl (by decide) rfl (fun ls hl => ?_)
  refine lv_iconst (v := 1) (pc := 2) hx hb dX10_holdsTogether_2 (by decide) ?_
  refine lv_istore_n (lv' := [(2, .int 1), (1, .int 1), (0, .ref v)]) (pc := 3) hx hb dX10_holdsTogether_3 rfl hl (by decide) rfl (fun ls hl => ?_)
  have loop1 : ∀ (fu : Nat) (t : Nat) (he : Int32), (pp + 1 < fu + t) → (1 ≤ t) → (t ≤ pp ∨ t = 1) → (he = hld L lc pp (t - 1)) → ∀ (H : Heap) (locs : List Loc) (ls : Array Slot), WD g A s H locs [(v, .inr (10, [.int (nI pp), .int (nI lc), .int de, .ref v3, .ref v4, .ref v5, .ref v6, .ref v7, .ref v8, .ref v9, .ref v10, .ref v11, .ref v12, .ref v13, .int gl, .ref v15])), (v9, .inl (g.2.1 1, 72, .inl L))] → lv_has ls 5 [(0, .ref v), (1, .int he), (2, .int (nI t))] → W p l e (RM 3 0 0) s m args below meth c H locs 0 0 Q (F0 m 4 ls []) := by
    intro fu
    induction fu with
    | zero =>
      intro t he hm ht htm hhe
      exact absurd hm (by omega)
    | succ fu ih1 =>
      intro t he hm ht htm hhe H locs ls hW hl
      refine lv_iload_n (pc := 4) hx hb dX10_holdsTogether_4 rfl (lv_at hl 2 rfl) ?_
      refine lv_aload_n (pc := 5) hx hb dX10_holdsTogether_5 rfl (lv_at hl 0 rfl) ?_
      refine r_get X hW 0 ciX10 0 rfl (by decide) m_272 rfl rfl dX10_holdsTogether_6 ?_
      refine lv_icmp_ge (tgt := 58) (pc := 9) hx hb dX10_holdsTogether_9 rfl (fun c1 => ?_) (fun c1 => ?_)
      · have htp : pp ≤ t := ge_t (by omega) (by omega) c1
        have hhe9 : he = hld L lc pp (pp - 1) := by rw [hhe, show t - 1 = pp - 1 by omega]
        refine lv_iload_n (pc := 58) hx hb dX10_holdsTogether_58 rfl (lv_at hl 1 rfl) ?_
        refine lv_aload_n (pc := 59) hx hb dX10_holdsTogether_59 rfl (lv_at hl 0 rfl) ?_
        refine c_Vi (pc := 60) (As := []) (rest := [.int he]) (wr := [(v9, .inl (g.2.1 1, 72, .inl L))]) X hW 0 ciX10 rfl (C_X10_everyoneG l g v v3 v4 v5 v6 v7 v8 v9 v10 v11 v12 v13 v15 (nI pp) (nI lc) de gl) vX10_111 [0] [1] rfl rfl rfl rfl rfl rfl hl.1 rfl (Nat.le_of_ble_eq_true rfl) ⟨Nat.le_of_ble_eq_true rfl, Nat.le_of_ble_eq_true rfl⟩ ⟨Nat.le_of_ble_eq_true rfl, Nat.le_of_ble_eq_true rfl⟩ dX10_holdsTogether_60 (fun r2 u9 H locs hq hW => ?_)
        obtain ⟨rfl, rfl⟩ := hq
        have hW : WD g A s _ _ [(v9, .inl (g.2.1 1, 72, .inl L)), (v, .inr (10, [.int (nI pp), .int (nI lc), .int de, .ref v3, .ref v4, .ref v5, .ref v6, .ref v7, .ref v8, .ref v9, .ref v10, .ref v11, .ref v12, .ref v13, .int gl, .ref v15]))] := hW
        refine lv_icmp_ne (tgt := 70) (pc := 63) hx hb dX10_holdsTogether_63 rfl (fun c3 => ?_) (fun c3 => ?_)
        · refine lv_iconst (v := 0) (pc := 70) hx hb dX10_holdsTogether_70 (by decide) ?_
          exact e_z X hQ hr hW (u := [(v, .inr (10, [.int (nI pp), .int (nI lc), .int de, .ref v3, .ref v4, .ref v5, .ref v6, .ref v7, .ref v8, .ref v9, .ref v10, .ref v11, .ref v12, .ref v13, .int gl, .ref v15])), (v9, .inl (g.2.1 1, 72, .inl L))]) rfl [1, 0] rfl rfl (⟨(if_neg (fun q => c3 (hhe9.trans q))).symm, rfl⟩) ⟨Nat.le_of_ble_eq_true rfl, Nat.le_of_ble_eq_true rfl⟩ dX10_holdsTogether_71
        · refine lv_iconst (v := 1) (pc := 66) hx hb dX10_holdsTogether_66 (by decide) ?_
          refine lv_goto (tgt := 71) (pc := 67) hx hb dX10_holdsTogether_67 rfl ?_
          exact e_z X hQ hr hW (u := [(v, .inr (10, [.int (nI pp), .int (nI lc), .int de, .ref v3, .ref v4, .ref v5, .ref v6, .ref v7, .ref v8, .ref v9, .ref v10, .ref v11, .ref v12, .ref v13, .int gl, .ref v15])), (v9, .inl (g.2.1 1, 72, .inl L))]) rfl [1, 0] rfl rfl (⟨(if_pos (hhe9.symm.trans c3)).symm, rfl⟩) ⟨Nat.le_of_ble_eq_true rfl, Nat.le_of_ble_eq_true rfl⟩ dX10_holdsTogether_71
      · have htp : t < pp := ge_f (by omega) (by omega) c1
        refine lv_iload_n (pc := 12) hx hb dX10_holdsTogether_12 rfl (lv_at hl 1 rfl) ?_
        refine lv_istore_n (lv' := [(3, .int he), (0, .ref v), (1, .int he), (2, .int (nI t))]) (pc := 13) hx hb dX10_holdsTogether_13 rfl hl (by decide) rfl (fun ls hl => ?_)
        refine lv_iconst (v := 0) (pc := 14) hx hb dX10_holdsTogether_14 (by decide) ?_
        refine lv_istore (lv' := [(4, .int 0), (3, .int he), (0, .ref v), (1, .int he), (2, .int (nI t))]) (pc := 15) hx hb dX10_holdsTogether_15 hl (by decide) rfl (fun ls hl => ?_)
        have loop2 : ∀ (fv : Nat) (k : Nat) (mo : Int32), (pp < fv + k) → (k ≤ pp) → (mo = hln L lc he k) → ∀ (H : Heap) (locs : List Loc) (ls : Array Slot), WD g A s H locs [(v, .inr (10, [.int (nI pp), .int (nI lc), .int de, .ref v3, .ref v4, .ref v5, .ref v6, .ref v7, .ref v8, .ref v9, .ref v10, .ref v11, .ref v12, .ref v13, .int gl, .ref v15])), (v9, .inl (g.2.1 1, 72, .inl L))] → lv_has ls 5 [(0, .ref v), (1, .int he), (2, .int (nI t)), (3, .int mo), (4, .int (nI k))] → W p l e (RM 3 0 0) s m args below meth c H locs 0 0 Q (F0 m 17 ls []) := by
          intro fv
          induction fv with
          | zero =>
            intro k mo hm2 hk hin_
            exact absurd hm2 (by omega)
          | succ fv ih2 =>
            intro k mo hm2 hk hin_ H locs ls hW hl
            refine lv_iload (pc := 17) hx hb dX10_holdsTogether_17 (lv_at hl 4 rfl) ?_
            refine lv_aload_n (pc := 19) hx hb dX10_holdsTogether_19 rfl (lv_at hl 0 rfl) ?_
            refine r_get X hW 0 ciX10 0 rfl (by decide) m_272 rfl rfl dX10_holdsTogether_20 ?_
            refine lv_icmp_ge (tgt := 50) (pc := 23) hx hb dX10_holdsTogether_23 rfl (fun c4 => ?_) (fun c4 => ?_)
            · have hkp : k = pp := Nat.le_antisymm hk (ge_t (by omega) (by omega) c4)
              refine lv_iload_n (pc := 50) hx hb dX10_holdsTogether_50 rfl (lv_at hl 3 rfl) ?_
              refine lv_istore_n (lv' := [(1, .int mo), (0, .ref v), (2, .int (nI t)), (3, .int mo), (4, .int (nI k))]) (pc := 51) hx hb dX10_holdsTogether_51 rfl hl (by decide) rfl (fun ls hl => ?_)
              refine lv_iinc (v := nI (t + 1)) (lv' := [(2, .int (nI (t + 1))), (1, .int mo), (0, .ref v), (3, .int mo), (4, .int (nI k))]) (pc := 52) hx hb dX10_holdsTogether_52 hl (k := 2) rfl ((nI_succ t).symm) (by decide) rfl (fun ls hl => ?_)
              refine lv_goto (tgt := 4) (pc := 55) hx hb dX10_holdsTogether_55 rfl ?_
              have hW : WD g A s _ _ [(v, .inr (10, [.int (nI pp), .int (nI lc), .int de, .ref v3, .ref v4, .ref v5, .ref v6, .ref v7, .ref v8, .ref v9, .ref v10, .ref v11, .ref v12, .ref v13, .int gl, .ref v15])), (v9, .inl (g.2.1 1, 72, .inl L))] := hW.pick [0, 1] rfl rfl
              exact ih1 (t + 1) mo (by omega) (by omega) (Or.inl (by omega)) (by rw [hin_, hkp, hhe, show t + 1 - 1 = t - 1 + 1 by omega, hld]) _ _ _ hW (lv_sub hl [2, 1, 0] rfl)
            · have hkl : k < pp := ge_f (by omega) (by omega) c4
              refine lv_iload_n (pc := 26) hx hb dX10_holdsTogether_26 rfl (lv_at hl 1 rfl) ?_
              refine lv_iload (pc := 27) hx hb dX10_holdsTogether_27 (lv_at hl 4 rfl) ?_
              refine c_SNi (pc := 29) (As := [.int he, .int (nI k)]) (rest := []) (wr := [(v, .inr (10, [.int (nI pp), .int (nI lc), .int de, .ref v3, .ref v4, .ref v5, .ref v6, .ref v7, .ref v8, .ref v9, .ref v10, .ref v11, .ref v12, .ref v13, .int gl, .ref v15])), (v9, .inl (g.2.1 1, 72, .inl L))]) X hW (C_X11_has l g he (nI k)) vX10_76 [] [0, 1] rfl rfl rfl rfl rfl rfl hl.1 rfl (Nat.le_of_ble_eq_true rfl) ⟨Nat.le_of_ble_eq_true rfl, Nat.le_of_ble_eq_true rfl⟩ ⟨Nat.le_of_ble_eq_true rfl, Nat.le_of_ble_eq_true rfl⟩ dX10_holdsTogether_29 (fun r5 u9 H locs hq hW => ?_)
              obtain ⟨rfl, rfl⟩ := hq
              have hW : WD g A s _ _ [(v, .inr (10, [.int (nI pp), .int (nI lc), .int de, .ref v3, .ref v4, .ref v5, .ref v6, .ref v7, .ref v8, .ref v9, .ref v10, .ref v11, .ref v12, .ref v13, .int gl, .ref v15])), (v9, .inl (g.2.1 1, 72, .inl L))] := hW
              refine lv_if_eq (tgt := 44) (pc := 32) hx hb dX10_holdsTogether_32 rfl (fun c6 => ?_) (fun c6 => ?_)
              · refine lv_iinc (v := nI (k + 1)) (lv' := [(4, .int (nI (k + 1))), (0, .ref v), (1, .int he), (2, .int (nI t)), (3, .int mo)]) (pc := 44) hx hb dX10_holdsTogether_44 hl (k := 4) rfl ((nI_succ k).symm) (by decide) rfl (fun ls hl => ?_)
                refine lv_goto (tgt := 17) (pc := 47) hx hb dX10_holdsTogether_47 rfl ?_
                have hW : WD g A s _ _ [(v, .inr (10, [.int (nI pp), .int (nI lc), .int de, .ref v3, .ref v4, .ref v5, .ref v6, .ref v7, .ref v8, .ref v9, .ref v10, .ref v11, .ref v12, .ref v13, .int gl, .ref v15])), (v9, .inl (g.2.1 1, 72, .inl L))] := hW.pick [0, 1] rfl rfl
                exact ih2 (k + 1) mo (by omega) (by omega) (by rw [hln, ← hin_]; simp only [c6, if_true, if_false]) _ _ _ hW (lv_sub hl [1, 2, 3, 4, 0] rfl)
              · refine lv_iload_n (pc := 35) hx hb dX10_holdsTogether_35 rfl (lv_at hl 3 rfl) ?_
                refine lv_aload_n (pc := 36) hx hb dX10_holdsTogether_36 rfl (lv_at hl 0 rfl) ?_
                refine lv_iload (pc := 37) hx hb dX10_holdsTogether_37 (lv_at hl 4 rfl) ?_
                refine c_Vi (pc := 39) (As := [.int (nI k)]) (rest := [.int mo]) (wr := []) X hW 0 ciX10 rfl (C_X10_neighboursG l g v v3 v4 v5 v6 v7 v8 v9 v10 v11 v12 v13 v15 (nI pp) de gl L lc (nI k) (by omega)) vX10_108 [0, 1] [] rfl rfl rfl rfl rfl rfl hl.1 rfl (Nat.le_of_ble_eq_true rfl) ⟨Nat.le_of_ble_eq_true rfl, Nat.le_of_ble_eq_true rfl⟩ ⟨Nat.le_of_ble_eq_true rfl, Nat.le_of_ble_eq_true rfl⟩ dX10_holdsTogether_39 (fun r7 u9 H locs hq hW => ?_)
                obtain ⟨rfl, rfl⟩ := hq
                have hW : WD g A s _ _ [(v, .inr (10, [.int (nI pp), .int (nI lc), .int de, .ref v3, .ref v4, .ref v5, .ref v6, .ref v7, .ref v8, .ref v9, .ref v10, .ref v11, .ref v12, .ref v13, .int gl, .ref v15])), (v9, .inl (g.2.1 1, 72, .inl L))] := hW
                refine lv_ior (pc := 42) hx hb dX10_holdsTogether_42 ?_
                refine lv_istore_n (lv' := [(3, .int (mo ||| (nbs L (nI k) lc))), (0, .ref v), (1, .int he), (2, .int (nI t)), (4, .int (nI k))]) (pc := 43) hx hb dX10_holdsTogether_43 rfl hl (by decide) rfl (fun ls hl => ?_)
                refine lv_iinc (v := nI (k + 1)) (lv' := [(4, .int (nI (k + 1))), (3, .int (mo ||| (nbs L (nI k) lc))), (0, .ref v), (1, .int he), (2, .int (nI t))]) (pc := 44) hx hb dX10_holdsTogether_44 hl (k := 4) rfl ((nI_succ k).symm) (by decide) rfl (fun ls hl => ?_)
                refine lv_goto (tgt := 17) (pc := 47) hx hb dX10_holdsTogether_47 rfl ?_
                have hW : WD g A s _ _ [(v, .inr (10, [.int (nI pp), .int (nI lc), .int de, .ref v3, .ref v4, .ref v5, .ref v6, .ref v7, .ref v8, .ref v9, .ref v10, .ref v11, .ref v12, .ref v13, .int gl, .ref v15])), (v9, .inl (g.2.1 1, 72, .inl L))] := hW.pick [0, 1] rfl rfl
                exact ih2 (k + 1) (mo ||| (nbs L (nI k) lc)) (by omega) (by omega) (by rw [hln, ← hin_]; simp only [c6, if_true, if_false]) _ _ _ hW (lv_sub hl [2, 3, 4, 1, 0] rfl)
        exact loop2 (pp + 1) 0 he (by omega) (Nat.zero_le _) rfl _ _ _ hW (lv_sub hl [2, 3, 4, 1, 0] rfl)
  exact loop1 (pp + 1) 1 1 (by omega) (Nat.le_refl _) (Or.inr rfl) rfl _ _ _ hW (lv_sub hl [2, 1, 0] rfl)

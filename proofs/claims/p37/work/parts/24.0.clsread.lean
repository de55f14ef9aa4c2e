theorem arrV_ext {c : ClassId} {n : Nat} {f f' : Nat → Int32} (e : ∀ j : Nat, j < n → f j = f' j) : arrV c n (fun j => Value.int (f j)) = arrV c n (fun j => Value.int (f' j)) := by
  unfold arrV
  congr 1
  exact congrArg Array.ofFn (funext fun j => by show Value.int (f j.1) = Value.int (f' j.1); rw [e j.1 j.2])
/-- an array's picture, by its places alone -/
theorem WD_int {g : GG} {A : Nat → Prop} {s : State} {H : Heap} {locs : List Loc} {q n : Nat} {c : ClassId} {f f' : Nat → Int32} {ws : va_W} (h : WD g A s H locs ((q, .inl (c, n, .inl f)) :: ws)) (e : ∀ j : Nat, j < n → f j = f' j) : WD g A s H locs ((q, .inl (c, n, .inl f')) :: ws) := by
  refine ⟨fun k r hr => ?_, ⟨fun i j p r hp hr e0 => ?_, fun k r hr => ?_⟩, h.2.2⟩
  · cases k with
    | zero =>
      cases hr
      have h0 : H[q]? = some (vp_cell c (n, .inl f)) := h.1 0 _ rfl
      show H[q]? = some (vp_cell c (n, .inl f'))
      rw [h0, vp_cell_i, vp_cell_i, arrV_ext e]
    | succ k => exact h.1 (k + 1) r hr
  · cases i with
    | zero =>
      cases hp
      cases j with
      | zero => rfl
      | succ j => exact h.2.1.1 0 (j + 1) (q, .inl (c, n, .inl f)) r rfl hr e0
    | succ i =>
      cases j with
      | zero => cases hr; exact h.2.1.1 (i + 1) 0 p (q, .inl (c, n, .inl f)) hp rfl e0
      | succ j => exact h.2.1.1 (i + 1) (j + 1) p r hp hr e0
  · cases k with
    | zero => cases hr; exact h.2.1.2 0 (q, .inl (c, n, .inl f)) rfl
    | succ k => exact h.2.1.2 (k + 1) r hr
theorem tab20 (x : Int32) : x = 100 ∨ x = 101 ∨ x = 102 ∨ x = 103 ∨ x = 104 ∨ x = 105 ∨ x = 106 ∨ x = 107 ∨ x = 108 ∨ x = 109 ∨ x = 110 ∨ x = 111 ∨ x = 112 ∨ x = 113 ∨ x = 114 ∨ x = 115 ∨ x = 116 ∨ x = 117 ∨ x = 118 ∨ x = 119 ∨ (x.toInt < 100 ∨ 119 < x.toInt) := by
  by_cases h : x.toInt < 100 ∨ 119 < x.toInt
  · simp only [h, or_true]
  · obtain ⟨j, hj, e⟩ : ∃ j : Nat, j < 20 ∧ x.toInt = 100 + (j : Int) := ⟨(x.toInt - 100).toNat, by omega, by omega⟩
    have e2 : x = Int32.ofInt (100 + (j : Int)) := by rw [← e, Int32.ofInt_toInt]
    match j, hj with
    | 0, _ => exact Or.inl e2
    | 1, _ => exact Or.inr (Or.inl e2)
    | 2, _ => exact Or.inr (Or.inr (Or.inl e2))
    | 3, _ => exact Or.inr (Or.inr (Or.inr (Or.inl e2)))
    | 4, _ => exact Or.inr (Or.inr (Or.inr (Or.inr (Or.inl e2))))
    | 5, _ => exact Or.inr (Or.inr (Or.inr (Or.inr (Or.inr (Or.inl e2)))))
    | 6, _ => exact Or.inr (Or.inr (Or.inr (Or.inr (Or.inr (Or.inr (Or.inl e2))))))
    | 7, _ => exact Or.inr (Or.inr (Or.inr (Or.inr (Or.inr (Or.inr (Or.inr (Or.inl e2)))))))
    | 8, _ => exact Or.inr (Or.inr (Or.inr (Or.inr (Or.inr (Or.inr (Or.inr (Or.inr (Or.inl e2))))))))
    | 9, _ => exact Or.inr (Or.inr (Or.inr (Or.inr (Or.inr (Or.inr (Or.inr (Or.inr (Or.inr (Or.inl e2)))))))))
    | 10, _ => exact Or.inr (Or.inr (Or.inr (Or.inr (Or.inr (Or.inr (Or.inr (Or.inr (Or.inr (Or.inr (Or.inl e2))))))))))
    | 11, _ => exact Or.inr (Or.inr (Or.inr (Or.inr (Or.inr (Or.inr (Or.inr (Or.inr (Or.inr (Or.inr (Or.inr (Or.inl e2)))))))))))
    | 12, _ => exact Or.inr (Or.inr (Or.inr (Or.inr (Or.inr (Or.inr (Or.inr (Or.inr (Or.inr (Or.inr (Or.inr (Or.inr (Or.inl e2))))))))))))
    | 13, _ => exact Or.inr (Or.inr (Or.inr (Or.inr (Or.inr (Or.inr (Or.inr (Or.inr (Or.inr (Or.inr (Or.inr (Or.inr (Or.inr (Or.inl e2)))))))))))))
    | 14, _ => exact Or.inr (Or.inr (Or.inr (Or.inr (Or.inr (Or.inr (Or.inr (Or.inr (Or.inr (Or.inr (Or.inr (Or.inr (Or.inr (Or.inr (Or.inl e2))))))))))))))
    | 15, _ => exact Or.inr (Or.inr (Or.inr (Or.inr (Or.inr (Or.inr (Or.inr (Or.inr (Or.inr (Or.inr (Or.inr (Or.inr (Or.inr (Or.inr (Or.inr (Or.inl e2)))))))))))))))
    | 16, _ => exact Or.inr (Or.inr (Or.inr (Or.inr (Or.inr (Or.inr (Or.inr (Or.inr (Or.inr (Or.inr (Or.inr (Or.inr (Or.inr (Or.inr (Or.inr (Or.inr (Or.inl e2))))))))))))))))
    | 17, _ => exact Or.inr (Or.inr (Or.inr (Or.inr (Or.inr (Or.inr (Or.inr (Or.inr (Or.inr (Or.inr (Or.inr (Or.inr (Or.inr (Or.inr (Or.inr (Or.inr (Or.inr (Or.inl e2)))))))))))))))))
    | 18, _ => exact Or.inr (Or.inr (Or.inr (Or.inr (Or.inr (Or.inr (Or.inr (Or.inr (Or.inr (Or.inr (Or.inr (Or.inr (Or.inr (Or.inr (Or.inr (Or.inr (Or.inr (Or.inr (Or.inl e2))))))))))))))))))
    | 19, _ => exact Or.inr (Or.inr (Or.inr (Or.inr (Or.inr (Or.inr (Or.inr (Or.inr (Or.inr (Or.inr (Or.inr (Or.inr (Or.inr (Or.inr (Or.inr (Or.inr (Or.inr (Or.inr (Or.inr (Or.inl e2)))))))))))))))))))
    | j + 20, hj => exact absurd hj (by omega)
theorem lOk_z {n : Nat} {f : Nat → Int32} {k : Nat} {pe : Int32} {c : Nat} : narrow .boolean (.int (lOk n f k pe c)) = .int (lOk n f k pe c) := by unfold lOk; split <;> rfl
theorem nOk_z {n : Nat} {f : Nat → Int32} {k : Nat} {pe : Int32} : narrow .boolean (.int (nOk n f k pe)) = .int (nOk n f k pe) := by
  unfold nOk
  split
  · rfl
  · split <;> rfl
theorem dfOk_z {n : Nat} {f : Nat → Int32} {k : Nat} {pe : Int32} : narrow .boolean (.int (dfOk n f k pe)) = .int (dfOk n f k pe) := by unfold dfOk; split <;> rfl
theorem m_453 : (Cond.code yX8_statement prog_10_method_9_code 2 (Option.some FieldType.boolean)) ∈ BW := bw (tb2 213 rfl) (by decide +kernel)
theorem dX8_statement_0 : decode cX8_statement 0 = .ok (.aload_n 0, 1) := DX8_statement _ _ _ rfl
theorem dX8_statement_1 : decode cX8_statement 1 = .ok (.aload_n 0, 1) := DX8_statement _ _ _ rfl
theorem dX8_statement_2 : decode cX8_statement 2 = .ok (.getfield 27, 3) := DX8_statement _ _ _ rfl
theorem dX8_statement_5 : decode cX8_statement 5 = .ok (.invokevirtual 38, 3) := DX8_statement _ _ _ rfl
theorem dX8_statement_8 : decode cX8_statement 8 = .ok (.tableswitch 146 100 119 #[140, 146, 146, 146, 146, 146, 146, 110, 96, 146, 146, 103, 146, 146, 146, 130, 146, 146, 146, 120], 96) := DX8_statement _ _ _ rfl
theorem dX8_statement_148 : decode cX8_statement 148 = .ok (.aload_n 0, 1) := DX8_statement _ _ _ rfl
theorem dX8_statement_149 : decode cX8_statement 149 = .ok (.aload_n 1, 1) := DX8_statement _ _ _ rfl
theorem m_471 : (Cond.methodLink "NoonValley$Tape" 69 yX8_deafOne) ∈ BW := bw (tb2 231 (by decide +kernel)) (by decide +kernel)
theorem m_473 : (Cond.instanceMethod yX8_deafOne) ∈ BW := bw (tb2 233 (by decide +kernel)) (by decide +kernel)
theorem s_1_8 : (Cond.selects RX8 yX8_deafOne yX8_deafOne) ∈ BW := bw (sl1 (y := yX8_deafOne) (n := 3) 8 (by decide +kernel)) (by decide +kernel)
theorem vX8_69 : LV RX8 69 RX8 yX8_deafOne cX8_deafOne 3 (some .boolean) 1 := ⟨m_471, m_473, s_1_8, m_2, m_474, rfl, by decide, by decide, by decide +kernel⟩
theorem dX8_statement_150 : decode cX8_statement 150 = .ok (.invokevirtual 69, 3) := DX8_statement _ _ _ rfl
theorem dX8_statement_153 : decode cX8_statement 153 = .ok (.ireturn, 1) := DX8_statement _ _ _ rfl
theorem dX8_statement_154 : decode cX8_statement 154 = .ok (.iconst 0, 1) := DX8_statement _ _ _ rfl
theorem dX8_statement_155 : decode cX8_statement 155 = .ok (.ireturn, 1) := DX8_statement _ _ _ rfl
theorem dX8_statement_118 : decode cX8_statement 118 = .ok (.aload_n 0, 1) := DX8_statement _ _ _ rfl
theorem dX8_statement_119 : decode cX8_statement 119 = .ok (.aload_n 1, 1) := DX8_statement _ _ _ rfl
theorem dX8_statement_120 : decode cX8_statement 120 = .ok (.aload_n 1, 1) := DX8_statement _ _ _ rfl
theorem m_294 : (Cond.fieldLinkNest "NoonValley$Tape" 56 "NoonValley$Valley" "knows" "[I" "NoonValley") ∈ NWS := nw (tb2 54 (by decide +kernel)) (by decide +kernel)
theorem dX8_statement_121 : decode cX8_statement 121 = .ok (.getfield 56, 3) := DX8_statement _ _ _ rfl
theorem m_467 : (Cond.methodLink "NoonValley$Tape" 59 yX8_newsOf) ∈ BW := bw (tb2 227 (by decide +kernel)) (by decide +kernel)
theorem m_469 : (Cond.instanceMethod yX8_newsOf) ∈ BW := bw (tb2 229 (by decide +kernel)) (by decide +kernel)
theorem s_1_7 : (Cond.selects RX8 yX8_newsOf yX8_newsOf) ∈ BW := bw (sl1 (y := yX8_newsOf) (n := 3) 7 (by decide +kernel)) (by decide +kernel)
theorem vX8_59 : LV RX8 59 RX8 yX8_newsOf cX8_newsOf 5 (some .boolean) 2 := ⟨m_467, m_469, s_1_7, m_2, m_470, rfl, by decide, by decide, by decide +kernel⟩
theorem dX8_statement_124 : decode cX8_statement 124 = .ok (.invokevirtual 59, 3) := DX8_statement _ _ _ rfl
theorem dX8_statement_127 : decode cX8_statement 127 = .ok (.ireturn, 1) := DX8_statement _ _ _ rfl
theorem dX8_statement_104 : decode cX8_statement 104 = .ok (.aload_n 0, 1) := DX8_statement _ _ _ rfl
theorem dX8_statement_105 : decode cX8_statement 105 = .ok (.aload_n 1, 1) := DX8_statement _ _ _ rfl
theorem dX8_statement_106 : decode cX8_statement 106 = .ok (.iconst 0, 1) := DX8_statement _ _ _ rfl
theorem m_454 : (Cond.methodLink "NoonValley$Tape" 52 yX8_lineOf) ∈ BW := bw (tb2 214 (by decide +kernel)) (by decide +kernel)
theorem m_456 : (Cond.instanceMethod yX8_lineOf) ∈ BW := bw (tb2 216 (by decide +kernel)) (by decide +kernel)
theorem s_1_6 : (Cond.selects RX8 yX8_lineOf yX8_lineOf) ∈ BW := bw (sl1 (y := yX8_lineOf) (n := 3) 6 (by decide +kernel)) (by decide +kernel)
theorem vX8_52 : LV RX8 52 RX8 yX8_lineOf cX8_lineOf 7 (some .boolean) 2 := ⟨m_454, m_456, s_1_6, m_2, m_457, rfl, by decide, by decide, by decide +kernel⟩
theorem dX8_statement_107 : decode cX8_statement 107 = .ok (.invokevirtual 52, 3) := DX8_statement _ _ _ rfl
theorem dX8_statement_110 : decode cX8_statement 110 = .ok (.ireturn, 1) := DX8_statement _ _ _ rfl
theorem dX8_statement_111 : decode cX8_statement 111 = .ok (.aload_n 0, 1) := DX8_statement _ _ _ rfl
theorem dX8_statement_112 : decode cX8_statement 112 = .ok (.aload_n 1, 1) := DX8_statement _ _ _ rfl
theorem dX8_statement_113 : decode cX8_statement 113 = .ok (.iconst 1, 1) := DX8_statement _ _ _ rfl
theorem dX8_statement_114 : decode cX8_statement 114 = .ok (.invokevirtual 52, 3) := DX8_statement _ _ _ rfl
theorem dX8_statement_117 : decode cX8_statement 117 = .ok (.ireturn, 1) := DX8_statement _ _ _ rfl
theorem dX8_statement_138 : decode cX8_statement 138 = .ok (.aload_n 0, 1) := DX8_statement _ _ _ rfl
theorem dX8_statement_139 : decode cX8_statement 139 = .ok (.aload_n 1, 1) := DX8_statement _ _ _ rfl
theorem dX8_statement_140 : decode cX8_statement 140 = .ok (.aload_n 1, 1) := DX8_statement _ _ _ rfl
theorem m_303 : (Cond.fieldLinkNest "NoonValley$Tape" 66 "NoonValley$Valley" "mustNot" "[I" "NoonValley") ∈ NWS := nw (tb2 63 (by decide +kernel)) (by decide +kernel)
theorem dX8_statement_141 : decode cX8_statement 141 = .ok (.getfield 66, 3) := DX8_statement _ _ _ rfl
theorem dX8_statement_144 : decode cX8_statement 144 = .ok (.invokevirtual 59, 3) := DX8_statement _ _ _ rfl
theorem dX8_statement_147 : decode cX8_statement 147 = .ok (.ireturn, 1) := DX8_statement _ _ _ rfl
theorem dX8_statement_128 : decode cX8_statement 128 = .ok (.aload_n 0, 1) := DX8_statement _ _ _ rfl
theorem dX8_statement_129 : decode cX8_statement 129 = .ok (.aload_n 1, 1) := DX8_statement _ _ _ rfl
theorem dX8_statement_130 : decode cX8_statement 130 = .ok (.aload_n 1, 1) := DX8_statement _ _ _ rfl
theorem m_299 : (Cond.fieldLinkNest "NoonValley$Tape" 63 "NoonValley$Valley" "must" "[I" "NoonValley") ∈ NWS := nw (tb2 59 (by decide +kernel)) (by decide +kernel)
theorem dX8_statement_131 : decode cX8_statement 131 = .ok (.getfield 63, 3) := DX8_statement _ _ _ rfl
theorem dX8_statement_134 : decode cX8_statement 134 = .ok (.invokevirtual 59, 3) := DX8_statement _ _ _ rfl
theorem dX8_statement_137 : decode cX8_statement 137 = .ok (.ireturn, 1) := DX8_statement _ _ _ rfl
theorem dX8_read_31 : decode cX8_read 31 = .ok (.aload_n 0, 1) := DX8_read _ _ _ rfl
theorem dX8_read_32 : decode cX8_read 32 = .ok (.dup, 1) := DX8_read _ _ _ rfl
theorem dX8_read_33 : decode cX8_read 33 = .ok (.getfield 27, 3) := DX8_read _ _ _ rfl
theorem dX8_read_36 : decode cX8_read 36 = .ok (.iconst 1, 1) := DX8_read _ _ _ rfl
theorem dX8_read_37 : decode cX8_read 37 = .ok (.iadd, 1) := DX8_read _ _ _ rfl
theorem dX8_read_38 : decode cX8_read 38 = .ok (.putfield 27, 3) := DX8_read _ _ _ rfl
theorem dX8_read_41 : decode cX8_read 41 = .ok (.aload_n 1, 1) := DX8_read _ _ _ rfl
theorem dX8_read_42 : decode cX8_read 42 = .ok (.aload_n 0, 1) := DX8_read _ _ _ rfl
theorem dX8_read_43 : decode cX8_read 43 = .ok (.iconst 1, 1) := DX8_read _ _ _ rfl
theorem dX8_read_44 : decode cX8_read 44 = .ok (.bipush 7, 2) := DX8_read _ _ _ rfl
theorem dX8_read_46 : decode cX8_read 46 = .ok (.iconst (-1), 1) := DX8_read _ _ _ rfl
theorem dX8_read_47 : decode cX8_read 47 = .ok (.invokevirtual 41, 3) := DX8_read _ _ _ rfl
theorem dX8_read_50 : decode cX8_read 50 = .ok (.putfield 45, 3) := DX8_read _ _ _ rfl
theorem dX8_read_53 : decode cX8_read 53 = .ok (.aload_n 1, 1) := DX8_read _ _ _ rfl
theorem dX8_read_54 : decode cX8_read 54 = .ok (.getfield 45, 3) := DX8_read _ _ _ rfl
theorem dX8_read_57 : decode cX8_read 57 = .ok (.iconst (-1), 1) := DX8_read _ _ _ rfl
theorem dX8_read_58 : decode cX8_read 58 = .ok (.if_icmp .ne 8, 3) := DX8_read _ _ _ rfl
theorem dX8_read_66 : decode cX8_read 66 = .ok (.aload_n 0, 1) := DX8_read _ _ _ rfl
theorem dX8_read_67 : decode cX8_read 67 = .ok (.invokevirtual 35, 3) := DX8_read _ _ _ rfl
theorem dX8_read_70 : decode cX8_read 70 = .ok (.aload_n 0, 1) := DX8_read _ _ _ rfl
theorem dX8_read_71 : decode cX8_read 71 = .ok (.getfield 27, 3) := DX8_read _ _ _ rfl
theorem dX8_read_74 : decode cX8_read 74 = .ok (.aload_n 0, 1) := DX8_read _ _ _ rfl
theorem dX8_read_75 : decode cX8_read 75 = .ok (.getfield 19, 3) := DX8_read _ _ _ rfl
theorem dX8_read_78 : decode cX8_read 78 = .ok (.if_icmp .ge 55, 3) := DX8_read _ _ _ rfl
theorem dX8_read_133 : decode cX8_read 133 = .ok (.iconst (-1), 1) := DX8_read _ _ _ rfl
theorem dX8_read_134 : decode cX8_read 134 = .ok (.ireturn, 1) := DX8_read _ _ _ rfl
theorem dX8_read_81 : decode cX8_read 81 = .ok (.aload_n 0, 1) := DX8_read _ _ _ rfl
theorem dX8_read_82 : decode cX8_read 82 = .ok (.aload_n 0, 1) := DX8_read _ _ _ rfl
theorem dX8_read_83 : decode cX8_read 83 = .ok (.getfield 27, 3) := DX8_read _ _ _ rfl
theorem dX8_read_86 : decode cX8_read 86 = .ok (.invokevirtual 38, 3) := DX8_read _ _ _ rfl
theorem dX8_read_89 : decode cX8_read 89 = .ok (.bipush 59, 2) := DX8_read _ _ _ rfl
theorem dX8_read_91 : decode cX8_read 91 = .ok (.if_icmp .eq 8, 3) := DX8_read _ _ _ rfl
theorem dX8_read_99 : decode cX8_read 99 = .ok (.aload_n 0, 1) := DX8_read _ _ _ rfl
theorem dX8_read_100 : decode cX8_read 100 = .ok (.dup, 1) := DX8_read _ _ _ rfl
theorem dX8_read_101 : decode cX8_read 101 = .ok (.getfield 27, 3) := DX8_read _ _ _ rfl
theorem dX8_read_104 : decode cX8_read 104 = .ok (.iconst 1, 1) := DX8_read _ _ _ rfl
theorem dX8_read_105 : decode cX8_read 105 = .ok (.iadd, 1) := DX8_read _ _ _ rfl
theorem dX8_read_106 : decode cX8_read 106 = .ok (.putfield 27, 3) := DX8_read _ _ _ rfl
theorem dX8_read_109 : decode cX8_read 109 = .ok (.aload_n 0, 1) := DX8_read _ _ _ rfl
theorem dX8_read_110 : decode cX8_read 110 = .ok (.invokevirtual 35, 3) := DX8_read _ _ _ rfl
theorem dX8_read_113 : decode cX8_read 113 = .ok (.aload_n 0, 1) := DX8_read _ _ _ rfl
theorem dX8_read_114 : decode cX8_read 114 = .ok (.aload_n 1, 1) := DX8_read _ _ _ rfl
theorem m_450 : (Cond.methodLink "NoonValley$Tape" 48 yX8_statement) ∈ BW := bw (tb2 210 (by decide +kernel)) (by decide +kernel)
theorem m_452 : (Cond.instanceMethod yX8_statement) ∈ BW := bw (tb2 212 (by decide +kernel)) (by decide +kernel)
theorem s_1_5 : (Cond.selects RX8 yX8_statement yX8_statement) ∈ BW := bw (sl1 (y := yX8_statement) (n := 3) 5 (by decide +kernel)) (by decide +kernel)
theorem vX8_48 : LV RX8 48 RX8 yX8_statement cX8_statement 2 (some .boolean) 1 := ⟨m_450, m_452, s_1_5, m_2, m_453, rfl, by decide, by decide, by decide +kernel⟩
theorem dX8_read_115 : decode cX8_read 115 = .ok (.invokevirtual 48, 3) := DX8_read _ _ _ rfl
theorem dX8_read_118 : decode cX8_read 118 = .ok (.ifCond .ne 8, 3) := DX8_read _ _ _ rfl
theorem dX8_read_126 : decode cX8_read 126 = .ok (.aload_n 0, 1) := DX8_read _ _ _ rfl
theorem dX8_read_127 : decode cX8_read 127 = .ok (.invokevirtual 35, 3) := DX8_read _ _ _ rfl
theorem dX8_read_130 : decode cX8_read 130 = .ok (.goto (-60), 3) := DX8_read _ _ _ rfl
theorem dX8_read_121 : decode cX8_read 121 = .ok (.aload_n 0, 1) := DX8_read _ _ _ rfl
theorem dX8_read_122 : decode cX8_read 122 = .ok (.getfield 27, 3) := DX8_read _ _ _ rfl
theorem dX8_read_125 : decode cX8_read 125 = .ok (.ireturn, 1) := DX8_read _ _ _ rfl
theorem dX8_read_94 : decode cX8_read 94 = .ok (.aload_n 0, 1) := DX8_read _ _ _ rfl
theorem dX8_read_95 : decode cX8_read 95 = .ok (.getfield 27, 3) := DX8_read _ _ _ rfl
theorem dX8_read_98 : decode cX8_read 98 = .ok (.ireturn, 1) := DX8_read _ _ _ rfl
theorem dX8_read_61 : decode cX8_read 61 = .ok (.aload_n 0, 1) := DX8_read _ _ _ rfl
theorem dX8_read_62 : decode cX8_read 62 = .ok (.getfield 27, 3) := DX8_read _ _ _ rfl
theorem dX8_read_65 : decode cX8_read 65 = .ok (.ireturn, 1) := DX8_read _ _ _ rfl
set_option maxHeartbeats 4000000 in
set_option maxRecDepth 100000 in
theorem C_X8_statementG (l : Launch) (g : GG) (h0 q : Nat) (f0 : Nat → Int32) (n0 : Nat) (hn0 : n0 ≤ 400) (v v3 v4 v5 v6 v7 v8 v9 v10 v11 v12 v13 v15 : Nat) (pe gl : Int32) (S : TXT) (hk0 : S.1 ≤ n0) (hc : S.2.1 ≤ 12) : MetI l g yX8_statement cX8_statement 2 (some .boolean) 4 0 0 [.ref h0, .ref v] [(h0, .inr (8, [.ref q, .int (nI n0), .int (nI S.1)])), (q, .inl (g.2.1 1, 400, .inl f0)), (v, .inr (10, [.int pe, .int (nI S.2.1), .int S.2.2.1, .ref v3, .ref v4, .ref v5, .ref v6, .ref v7, .ref v8, .ref v9, .ref v10, .ref v11, .ref v12, .ref v13, .int gl, .ref v15])), (v3, .inl (g.2.1 1, 4, .inl S.2.2.2.1)), (v4, .inl (g.2.1 1, 4, .inl S.2.2.2.2.1)), (v5, .inl (g.2.1 1, 4, .inl S.2.2.2.2.2.1)), (v9, .inl (g.2.1 1, 72, .inl S.2.2.2.2.2.2))] (fun r u => r = (stm n0 f0 pe S).1 ∧ u = [(h0, .inr (8, [.ref q, .int (nI n0), .int (nI (stm n0 f0 pe S).2.1)])), (q, .inl (g.2.1 1, 400, .inl f0)), (v, .inr (10, [.int pe, .int (nI (stm n0 f0 pe S).2.2.1), .int ((stm n0 f0 pe S).2.2.2.1), .ref v3, .ref v4, .ref v5, .ref v6, .ref v7, .ref v8, .ref v9, .ref v10, .ref v11, .ref v12, .ref v13, .int gl, .ref v15])), (v3, .inl (g.2.1 1, 4, .inl ((stm n0 f0 pe S).2.2.2.2.1))), (v4, .inl (g.2.1 1, 4, .inl ((stm n0 f0 pe S).2.2.2.2.2.1))), (v5, .inl (g.2.1 1, 4, .inl ((stm n0 f0 pe S).2.2.2.2.2.2.1))), (v9, .inl (g.2.1 1, 72, .inl ((stm n0 f0 pe S).2.2.2.2.2.2.2)))]) := by
  refine MetI.of (own := RX8) rfl (by decide) (Nat.le_of_ble_eq_true rfl) ?_
  intro p e s m below meth c A ls args Q hQ X hr hin hW hl
  have hx := X.1
  have hb := X.2.1
  have hl : lv_has ls 2 [(0, .ref h0), (1, .ref v)] := hl
  refine lv_aload_n (pc := 0) hx hb dX8_statement_0 rfl (lv_at hl 0 rfl) ?_
  refine lv_aload_n (pc := 1) hx hb dX8_statement_1 rfl (lv_at hl 0 rfl) ?_
  refine r_get X hW 0 ciX8 2 rfl (by decide) m_39 rfl rfl dX8_statement_2 ?_
  refine c_Vi (pc := 5) (As := [.int (nI S.1)]) (rest := []) (wr := [(v, .inr (10, [.int pe, .int (nI S.2.1), .int S.2.2.1, .ref v3, .ref v4, .ref v5, .ref v6, .ref v7, .ref v8, .ref v9, .ref v10, .ref v11, .ref v12, .ref v13, .int gl, .ref v15])), (v3, .inl (g.2.1 1, 4, .inl S.2.2.2.1)), (v4, .inl (g.2.1 1, 4, .inl S.2.2.2.2.1)), (v5, .inl (g.2.1 1, 4, .inl S.2.2.2.2.2.1)), (v9, .inl (g.2.1 1, 72, .inl S.2.2.2.2.2.2))]) X hW 0 ciX8 rfl (C_X8_atG l g h0 q f0 n0 hn0 (nI S.1) (nI S.1)) vX8_38 [0, 1] [2, 3, 4, 5, 6] rfl rfl rfl rfl rfl rfl hl.1 rfl (Nat.le_of_ble_eq_true rfl) ⟨Nat.le_of_ble_eq_true rfl, Nat.le_of_ble_eq_true rfl⟩ ⟨Nat.le_of_ble_eq_true rfl, Nat.le_of_ble_eq_true rfl⟩ dX8_statement_5 (fun r1 u9 H locs hq hW => ?_)
  obtain ⟨rfl, rfl⟩ := hq
  have hW : WD g A s _ _ [(v, .inr (10, [.int pe, .int (nI S.2.1), .int S.2.2.1, .ref v3, .ref v4, .ref v5, .ref v6, .ref v7, .ref v8, .ref v9, .ref v10, .ref v11, .ref v12, .ref v13, .int gl, .ref v15])), (v3, .inl (g.2.1 1, 4, .inl S.2.2.2.1)), (v4, .inl (g.2.1 1, 4, .inl S.2.2.2.2.1)), (v5, .inl (g.2.1 1, 4, .inl S.2.2.2.2.2.1)), (v9, .inl (g.2.1 1, 72, .inl S.2.2.2.2.2.2)), (h0, .inr (8, [.ref q, .int (nI n0), .int (nI S.1)])), (q, .inl (g.2.1 1, 400, .inl f0))] := hW
  rcases tab20 (atv n0 f0 (nI S.1)) with h9 | h9 | h9 | h9 | h9 | h9 | h9 | h9 | h9 | h9 | h9 | h9 | h9 | h9 | h9 | h9 | h9 | h9 | h9 | h9 | h9
  · rw [h9]
    refine lv_tableIn (pc := 8) (off := 140) (tgt := 148) hx hb dX8_statement_8 (by decide) (by decide) rfl rfl ?_
    have hlt := at_lt hn0 (show S.1 < 2 ^ 31 by omega) (by rw [h9]; decide)
    refine lv_aload_n (pc := 148) hx hb dX8_statement_148 rfl (lv_at hl 0 rfl) ?_
    refine lv_aload_n (pc := 149) hx hb dX8_statement_149 rfl (lv_at hl 1 rfl) ?_
    refine c_Vi (pc := 150) (As := [.ref v]) (rest := []) (wr := [(v3, .inl (g.2.1 1, 4, .inl S.2.2.2.1)), (v4, .inl (g.2.1 1, 4, .inl S.2.2.2.2.1)), (v5, .inl (g.2.1 1, 4, .inl S.2.2.2.2.2.1)), (v9, .inl (g.2.1 1, 72, .inl S.2.2.2.2.2.2))]) X hW 5 ciX8 rfl (C_X8_deafOneG l g h0 q f0 n0 hn0 v v3 v4 v5 v6 v7 v8 v9 v10 v11 v12 v13 v15 pe (nI S.2.1) S.2.2.1 gl S.1 (by omega)) vX8_69 [5, 6, 0] [1, 2, 3, 4] rfl rfl rfl rfl rfl rfl hl.1 rfl (Nat.le_of_ble_eq_true rfl) ⟨Nat.le_of_ble_eq_true rfl, Nat.le_of_ble_eq_true rfl⟩ ⟨Nat.le_of_ble_eq_true rfl, Nat.le_of_ble_eq_true rfl⟩ dX8_statement_150 (fun r2 u9 H locs hq hW => ?_)
    obtain ⟨rfl, rfl⟩ := hq
    have hW : WD g A s _ _ [(v3, .inl (g.2.1 1, 4, .inl S.2.2.2.1)), (v4, .inl (g.2.1 1, 4, .inl S.2.2.2.2.1)), (v5, .inl (g.2.1 1, 4, .inl S.2.2.2.2.2.1)), (v9, .inl (g.2.1 1, 72, .inl S.2.2.2.2.2.2)), (h0, .inr (8, [.ref q, .int (nI n0), .int (nI (nPk n0 f0 S.1 pe))])), (q, .inl (g.2.1 1, 400, .inl f0)), (v, .inr (10, [.int pe, .int (nI S.2.1), .int (dD n0 f0 S.1 pe S.2.2.1), .ref v3, .ref v4, .ref v5, .ref v6, .ref v7, .ref v8, .ref v9, .ref v10, .ref v11, .ref v12, .ref v13, .int gl, .ref v15]))] := hW
    exact e_z X hQ hr hW (u := [(h0, .inr (8, [.ref q, .int (nI n0), .int (nI (nPk n0 f0 S.1 pe))])), (q, .inl (g.2.1 1, 400, .inl f0)), (v, .inr (10, [.int pe, .int (nI S.2.1), .int (dD n0 f0 S.1 pe S.2.2.1), .ref v3, .ref v4, .ref v5, .ref v6, .ref v7, .ref v8, .ref v9, .ref v10, .ref v11, .ref v12, .ref v13, .int gl, .ref v15])), (v3, .inl (g.2.1 1, 4, .inl S.2.2.2.1)), (v4, .inl (g.2.1 1, 4, .inl S.2.2.2.2.1)), (v5, .inl (g.2.1 1, 4, .inl S.2.2.2.2.2.1)), (v9, .inl (g.2.1 1, 72, .inl S.2.2.2.2.2.2))]) dfOk_z [4, 5, 6, 0, 1, 2, 3] rfl rfl (⟨by rw [stm_d (n := n0) (f := f0) (pe := pe) (S := S) h9]; try rfl, by rw [stm_d (n := n0) (f := f0) (pe := pe) (S := S) h9]; try rfl⟩) ⟨Nat.le_of_ble_eq_true rfl, Nat.le_of_ble_eq_true rfl⟩ dX8_statement_153
  · rw [h9]
    refine lv_tableIn (pc := 8) (off := 146) (tgt := 154) hx hb dX8_statement_8 (by decide) (by decide) rfl rfl ?_
    refine lv_iconst (v := 0) (pc := 154) hx hb dX8_statement_154 (by decide) ?_
    exact e_z X hQ hr hW (u := [(h0, .inr (8, [.ref q, .int (nI n0), .int (nI S.1)])), (q, .inl (g.2.1 1, 400, .inl f0)), (v, .inr (10, [.int pe, .int (nI S.2.1), .int S.2.2.1, .ref v3, .ref v4, .ref v5, .ref v6, .ref v7, .ref v8, .ref v9, .ref v10, .ref v11, .ref v12, .ref v13, .int gl, .ref v15])), (v3, .inl (g.2.1 1, 4, .inl S.2.2.2.1)), (v4, .inl (g.2.1 1, 4, .inl S.2.2.2.2.1)), (v5, .inl (g.2.1 1, 4, .inl S.2.2.2.2.2.1)), (v9, .inl (g.2.1 1, 72, .inl S.2.2.2.2.2.2))]) rfl [5, 6, 0, 1, 2, 3, 4] rfl rfl (⟨by rw [stm_0 (n := n0) (f := f0) (pe := pe) (S := S) (by rw [h9]; decide) (by rw [h9]; decide) (by rw [h9]; decide) (by rw [h9]; decide) (by rw [h9]; decide) (by rw [h9]; decide)]; try rfl, by rw [stm_0 (n := n0) (f := f0) (pe := pe) (S := S) (by rw [h9]; decide) (by rw [h9]; decide) (by rw [h9]; decide) (by rw [h9]; decide) (by rw [h9]; decide) (by rw [h9]; decide)]; try rfl⟩) ⟨Nat.le_of_ble_eq_true rfl, Nat.le_of_ble_eq_true rfl⟩ dX8_statement_155
  · rw [h9]
    refine lv_tableIn (pc := 8) (off := 146) (tgt := 154) hx hb dX8_statement_8 (by decide) (by decide) rfl rfl ?_
    refine lv_iconst (v := 0) (pc := 154) hx hb dX8_statement_154 (by decide) ?_
    exact e_z X hQ hr hW (u := [(h0, .inr (8, [.ref q, .int (nI n0), .int (nI S.1)])), (q, .inl (g.2.1 1, 400, .inl f0)), (v, .inr (10, [.int pe, .int (nI S.2.1), .int S.2.2.1, .ref v3, .ref v4, .ref v5, .ref v6, .ref v7, .ref v8, .ref v9, .ref v10, .ref v11, .ref v12, .ref v13, .int gl, .ref v15])), (v3, .inl (g.2.1 1, 4, .inl S.2.2.2.1)), (v4, .inl (g.2.1 1, 4, .inl S.2.2.2.2.1)), (v5, .inl (g.2.1 1, 4, .inl S.2.2.2.2.2.1)), (v9, .inl (g.2.1 1, 72, .inl S.2.2.2.2.2.2))]) rfl [5, 6, 0, 1, 2, 3, 4] rfl rfl (⟨by rw [stm_0 (n := n0) (f := f0) (pe := pe) (S := S) (by rw [h9]; decide) (by rw [h9]; decide) (by rw [h9]; decide) (by rw [h9]; decide) (by rw [h9]; decide) (by rw [h9]; decide)]; try rfl, by rw [stm_0 (n := n0) (f := f0) (pe := pe) (S := S) (by rw [h9]; decide) (by rw [h9]; decide) (by rw [h9]; decide) (by rw [h9]; decide) (by rw [h9]; decide) (by rw [h9]; decide)]; try rfl⟩) ⟨Nat.le_of_ble_eq_true rfl, Nat.le_of_ble_eq_true rfl⟩ dX8_statement_155
  · rw [h9]
    refine lv_tableIn (pc := 8) (off := 146) (tgt := 154) hx hb dX8_statement_8 (by decide) (by decide) rfl rfl ?_
    refine lv_iconst (v := 0) (pc := 154) hx hb dX8_statement_154 (by decide) ?_
    exact e_z X hQ hr hW (u := [(h0, .inr (8, [.ref q, .int (nI n0), .int (nI S.1)])), (q, .inl (g.2.1 1, 400, .inl f0)), (v, .inr (10, [.int pe, .int (nI S.2.1), .int S.2.2.1, .ref v3, .ref v4, .ref v5, .ref v6, .ref v7, .ref v8, .ref v9, .ref v10, .ref v11, .ref v12, .ref v13, .int gl, .ref v15])), (v3, .inl (g.2.1 1, 4, .inl S.2.2.2.1)), (v4, .inl (g.2.1 1, 4, .inl S.2.2.2.2.1)), (v5, .inl (g.2.1 1, 4, .inl S.2.2.2.2.2.1)), (v9, .inl (g.2.1 1, 72, .inl S.2.2.2.2.2.2))]) rfl [5, 6, 0, 1, 2, 3, 4] rfl rfl (⟨by rw [stm_0 (n := n0) (f := f0) (pe := pe) (S := S) (by rw [h9]; decide) (by rw [h9]; decide) (by rw [h9]; decide) (by rw [h9]; decide) (by rw [h9]; decide) (by rw [h9]; decide)]; try rfl, by rw [stm_0 (n := n0) (f := f0) (pe := pe) (S := S) (by rw [h9]; decide) (by rw [h9]; decide) (by rw [h9]; decide) (by rw [h9]; decide) (by rw [h9]; decide) (by rw [h9]; decide)]; try rfl⟩) ⟨Nat.le_of_ble_eq_true rfl, Nat.le_of_ble_eq_true rfl⟩ dX8_statement_155
  · rw [h9]
    refine lv_tableIn (pc := 8) (off := 146) (tgt := 154) hx hb dX8_statement_8 (by decide) (by decide) rfl rfl ?_
    refine lv_iconst (v := 0) (pc := 154) hx hb dX8_statement_154 (by decide) ?_
    exact e_z X hQ hr hW (u := [(h0, .inr (8, [.ref q, .int (nI n0), .int (nI S.1)])), (q, .inl (g.2.1 1, 400, .inl f0)), (v, .inr (10, [.int pe, .int (nI S.2.1), .int S.2.2.1, .ref v3, .ref v4, .ref v5, .ref v6, .ref v7, .ref v8, .ref v9, .ref v10, .ref v11, .ref v12, .ref v13, .int gl, .ref v15])), (v3, .inl (g.2.1 1, 4, .inl S.2.2.2.1)), (v4, .inl (g.2.1 1, 4, .inl S.2.2.2.2.1)), (v5, .inl (g.2.1 1, 4, .inl S.2.2.2.2.2.1)), (v9, .inl (g.2.1 1, 72, .inl S.2.2.2.2.2.2))]) rfl [5, 6, 0, 1, 2, 3, 4] rfl rfl (⟨by rw [stm_0 (n := n0) (f := f0) (pe := pe) (S := S) (by rw [h9]; decide) (by rw [h9]; decide) (by rw [h9]; decide) (by rw [h9]; decide) (by rw [h9]; decide) (by rw [h9]; decide)]; try rfl, by rw [stm_0 (n := n0) (f := f0) (pe := pe) (S := S) (by rw [h9]; decide) (by rw [h9]; decide) (by rw [h9]; decide) (by rw [h9]; decide) (by rw [h9]; decide) (by rw [h9]; decide)]; try rfl⟩) ⟨Nat.le_of_ble_eq_true rfl, Nat.le_of_ble_eq_true rfl⟩ dX8_statement_155
  · rw [h9]
    refine lv_tableIn (pc := 8) (off := 146) (tgt := 154) hx hb dX8_statement_8 (by decide) (by decide) rfl rfl ?_
    refine lv_iconst (v := 0) (pc := 154) hx hb dX8_statement_154 (by decide) ?_
    exact e_z X hQ hr hW (u := [(h0, .inr (8, [.ref q, .int (nI n0), .int (nI S.1)])), (q, .inl (g.2.1 1, 400, .inl f0)), (v, .inr (10, [.int pe, .int (nI S.2.1), .int S.2.2.1, .ref v3, .ref v4, .ref v5, .ref v6, .ref v7, .ref v8, .ref v9, .ref v10, .ref v11, .ref v12, .ref v13, .int gl, .ref v15])), (v3, .inl (g.2.1 1, 4, .inl S.2.2.2.1)), (v4, .inl (g.2.1 1, 4, .inl S.2.2.2.2.1)), (v5, .inl (g.2.1 1, 4, .inl S.2.2.2.2.2.1)), (v9, .inl (g.2.1 1, 72, .inl S.2.2.2.2.2.2))]) rfl [5, 6, 0, 1, 2, 3, 4] rfl rfl (⟨by rw [stm_0 (n := n0) (f := f0) (pe := pe) (S := S) (by rw [h9]; decide) (by rw [h9]; decide) (by rw [h9]; decide) (by rw [h9]; decide) (by rw [h9]; decide) (by rw [h9]; decide)]; try rfl, by rw [stm_0 (n := n0) (f := f0) (pe := pe) (S := S) (by rw [h9]; decide) (by rw [h9]; decide) (by rw [h9]; decide) (by rw [h9]; decide) (by rw [h9]; decide) (by rw [h9]; decide)]; try rfl⟩) ⟨Nat.le_of_ble_eq_true rfl, Nat.le_of_ble_eq_true rfl⟩ dX8_statement_155
  · rw [h9]
    refine lv_tableIn (pc := 8) (off := 146) (tgt := 154) hx hb dX8_statement_8 (by decide) (by decide) rfl rfl ?_
    refine lv_iconst (v := 0) (pc := 154) hx hb dX8_statement_154 (by decide) ?_
    exact e_z X hQ hr hW (u := [(h0, .inr (8, [.ref q, .int (nI n0), .int (nI S.1)])), (q, .inl (g.2.1 1, 400, .inl f0)), (v, .inr (10, [.int pe, .int (nI S.2.1), .int S.2.2.1, .ref v3, .ref v4, .ref v5, .ref v6, .ref v7, .ref v8, .ref v9, .ref v10, .ref v11, .ref v12, .ref v13, .int gl, .ref v15])), (v3, .inl (g.2.1 1, 4, .inl S.2.2.2.1)), (v4, .inl (g.2.1 1, 4, .inl S.2.2.2.2.1)), (v5, .inl (g.2.1 1, 4, .inl S.2.2.2.2.2.1)), (v9, .inl (g.2.1 1, 72, .inl S.2.2.2.2.2.2))]) rfl [5, 6, 0, 1, 2, 3, 4] rfl rfl (⟨by rw [stm_0 (n := n0) (f := f0) (pe := pe) (S := S) (by rw [h9]; decide) (by rw [h9]; decide) (by rw [h9]; decide) (by rw [h9]; decide) (by rw [h9]; decide) (by rw [h9]; decide)]; try rfl, by rw [stm_0 (n := n0) (f := f0) (pe := pe) (S := S) (by rw [h9]; decide) (by rw [h9]; decide) (by rw [h9]; decide) (by rw [h9]; decide) (by rw [h9]; decide) (by rw [h9]; decide)]; try rfl⟩) ⟨Nat.le_of_ble_eq_true rfl, Nat.le_of_ble_eq_true rfl⟩ dX8_statement_155
  · rw [h9]
    refine lv_tableIn (pc := 8) (off := 110) (tgt := 118) hx hb dX8_statement_8 (by decide) (by decide) rfl rfl ?_
    have hlt := at_lt hn0 (show S.1 < 2 ^ 31 by omega) (by rw [h9]; decide)
    refine lv_aload_n (pc := 118) hx hb dX8_statement_118 rfl (lv_at hl 0 rfl) ?_
    refine lv_aload_n (pc := 119) hx hb dX8_statement_119 rfl (lv_at hl 1 rfl) ?_
    refine lv_aload_n (pc := 120) hx hb dX8_statement_120 rfl (lv_at hl 1 rfl) ?_
    refine r_getN X hW 0 ciX10 3 rfl (by decide) m_294 rfl rfl dX8_statement_121 ?_
    refine c_Vi (pc := 124) (As := [.ref v, .ref v3]) (rest := []) (wr := [(v4, .inl (g.2.1 1, 4, .inl S.2.2.2.2.1)), (v5, .inl (g.2.1 1, 4, .inl S.2.2.2.2.2.1)), (v9, .inl (g.2.1 1, 72, .inl S.2.2.2.2.2.2))]) X hW 5 ciX8 rfl (C_X8_newsOfE l g h0 q f0 n0 hn0 v v3 v4 v5 v6 v7 v8 v9 v10 v11 v12 v13 v15 pe (nI S.2.1) S.2.2.1 gl v3 S.2.2.2.1 S.1 (by omega)) vX8_59 [5, 6, 0, 1] [2, 3, 4] rfl rfl rfl rfl rfl rfl hl.1 rfl (Nat.le_of_ble_eq_true rfl) ⟨Nat.le_of_ble_eq_true rfl, Nat.le_of_ble_eq_true rfl⟩ ⟨Nat.le_of_ble_eq_true rfl, Nat.le_of_ble_eq_true rfl⟩ dX8_statement_124 (fun r3 u9 H locs hq hW => ?_)
    obtain ⟨rfl, rfl⟩ := hq
    have hW : WD g A s _ _ [(v4, .inl (g.2.1 1, 4, .inl S.2.2.2.2.1)), (v5, .inl (g.2.1 1, 4, .inl S.2.2.2.2.2.1)), (v9, .inl (g.2.1 1, 72, .inl S.2.2.2.2.2.2)), (h0, .inr (8, [.ref q, .int (nI n0), .int (nI (nK n0 f0 S.1 pe))])), (q, .inl (g.2.1 1, 400, .inl f0)), (v, .inr (10, [.int pe, .int (nI S.2.1), .int S.2.2.1, .ref v3, .ref v4, .ref v5, .ref v6, .ref v7, .ref v8, .ref v9, .ref v10, .ref v11, .ref v12, .ref v13, .int gl, .ref v15])), (v3, .inl (g.2.1 1, 4, .inl (nG n0 f0 S.1 pe S.2.2.2.1)))] := hW
    exact e_z X hQ hr hW (u := [(h0, .inr (8, [.ref q, .int (nI n0), .int (nI (nK n0 f0 S.1 pe))])), (q, .inl (g.2.1 1, 400, .inl f0)), (v, .inr (10, [.int pe, .int (nI S.2.1), .int S.2.2.1, .ref v3, .ref v4, .ref v5, .ref v6, .ref v7, .ref v8, .ref v9, .ref v10, .ref v11, .ref v12, .ref v13, .int gl, .ref v15])), (v3, .inl (g.2.1 1, 4, .inl (nG n0 f0 S.1 pe S.2.2.2.1))), (v4, .inl (g.2.1 1, 4, .inl S.2.2.2.2.1)), (v5, .inl (g.2.1 1, 4, .inl S.2.2.2.2.2.1)), (v9, .inl (g.2.1 1, 72, .inl S.2.2.2.2.2.2))]) nOk_z [3, 4, 5, 6, 0, 1, 2] rfl rfl (⟨by rw [stm_k (n := n0) (f := f0) (pe := pe) (S := S) h9]; try rfl, by rw [stm_k (n := n0) (f := f0) (pe := pe) (S := S) h9]; try rfl⟩) ⟨Nat.le_of_ble_eq_true rfl, Nat.le_of_ble_eq_true rfl⟩ dX8_statement_127
  · rw [h9]
    refine lv_tableIn (pc := 8) (off := 96) (tgt := 104) hx hb dX8_statement_8 (by decide) (by decide) rfl rfl ?_
    have hlt := at_lt hn0 (show S.1 < 2 ^ 31 by omega) (by rw [h9]; decide)
    refine lv_aload_n (pc := 104) hx hb dX8_statement_104 rfl (lv_at hl 0 rfl) ?_
    refine lv_aload_n (pc := 105) hx hb dX8_statement_105 rfl (lv_at hl 1 rfl) ?_
    refine lv_iconst (v := 0) (pc := 106) hx hb dX8_statement_106 (by decide) ?_
    refine c_Vi (pc := 107) (As := [.ref v, .int 0]) (rest := []) (wr := [(v3, .inl (g.2.1 1, 4, .inl S.2.2.2.1)), (v4, .inl (g.2.1 1, 4, .inl S.2.2.2.2.1)), (v5, .inl (g.2.1 1, 4, .inl S.2.2.2.2.2.1))]) X hW 5 ciX8 rfl (C_X8_lineOfG l g h0 q f0 n0 hn0 v v3 v4 v5 v6 v7 v8 v9 v10 v11 v12 v13 v15 pe S.2.2.1 gl S.2.1 S.2.2.2.2.2.2 0 S.1 (by omega) (by omega)) vX8_52 [5, 6, 0, 4] [1, 2, 3] rfl rfl rfl rfl rfl rfl hl.1 rfl (Nat.le_of_ble_eq_true rfl) ⟨Nat.le_of_ble_eq_true rfl, Nat.le_of_ble_eq_true rfl⟩ ⟨Nat.le_of_ble_eq_true rfl, Nat.le_of_ble_eq_true rfl⟩ dX8_statement_107 (fun r4 u9 H locs hq hW => ?_)
    obtain ⟨rfl, rfl⟩ := hq
    have hW : WD g A s _ _ [(v3, .inl (g.2.1 1, 4, .inl S.2.2.2.1)), (v4, .inl (g.2.1 1, 4, .inl S.2.2.2.2.1)), (v5, .inl (g.2.1 1, 4, .inl S.2.2.2.2.2.1)), (h0, .inr (8, [.ref q, .int (nI n0), .int (nI (lK n0 f0 S.1 pe S.2.1))])), (q, .inl (g.2.1 1, 400, .inl f0)), (v, .inr (10, [.int pe, .int (nI (lC n0 f0 S.1 pe S.2.1)), .int S.2.2.1, .ref v3, .ref v4, .ref v5, .ref v6, .ref v7, .ref v8, .ref v9, .ref v10, .ref v11, .ref v12, .ref v13, .int gl, .ref v15])), (v9, .inl (g.2.1 1, 72, .inl (lL n0 f0 S.1 pe S.2.1 0 S.2.2.2.2.2.2)))] := hW
    exact e_z X hQ hr hW (u := [(h0, .inr (8, [.ref q, .int (nI n0), .int (nI (lK n0 f0 S.1 pe S.2.1))])), (q, .inl (g.2.1 1, 400, .inl f0)), (v, .inr (10, [.int pe, .int (nI (lC n0 f0 S.1 pe S.2.1)), .int S.2.2.1, .ref v3, .ref v4, .ref v5, .ref v6, .ref v7, .ref v8, .ref v9, .ref v10, .ref v11, .ref v12, .ref v13, .int gl, .ref v15])), (v3, .inl (g.2.1 1, 4, .inl S.2.2.2.1)), (v4, .inl (g.2.1 1, 4, .inl S.2.2.2.2.1)), (v5, .inl (g.2.1 1, 4, .inl S.2.2.2.2.2.1)), (v9, .inl (g.2.1 1, 72, .inl (lL n0 f0 S.1 pe S.2.1 0 S.2.2.2.2.2.2)))]) lOk_z [3, 4, 5, 0, 1, 2, 6] rfl rfl (⟨by rw [stm_l (n := n0) (f := f0) (pe := pe) (S := S) h9]; try rfl, by rw [stm_l (n := n0) (f := f0) (pe := pe) (S := S) h9]; try rfl⟩) ⟨Nat.le_of_ble_eq_true rfl, Nat.le_of_ble_eq_true rfl⟩ dX8_statement_110
  · rw [h9]
    refine lv_tableIn (pc := 8) (off := 146) (tgt := 154) hx hb dX8_statement_8 (by decide) (by decide) rfl rfl ?_
    refine lv_iconst (v := 0) (pc := 154) hx hb dX8_statement_154 (by decide) ?_
    exact e_z X hQ hr hW (u := [(h0, .inr (8, [.ref q, .int (nI n0), .int (nI S.1)])), (q, .inl (g.2.1 1, 400, .inl f0)), (v, .inr (10, [.int pe, .int (nI S.2.1), .int S.2.2.1, .ref v3, .ref v4, .ref v5, .ref v6, .ref v7, .ref v8, .ref v9, .ref v10, .ref v11, .ref v12, .ref v13, .int gl, .ref v15])), (v3, .inl (g.2.1 1, 4, .inl S.2.2.2.1)), (v4, .inl (g.2.1 1, 4, .inl S.2.2.2.2.1)), (v5, .inl (g.2.1 1, 4, .inl S.2.2.2.2.2.1)), (v9, .inl (g.2.1 1, 72, .inl S.2.2.2.2.2.2))]) rfl [5, 6, 0, 1, 2, 3, 4] rfl rfl (⟨by rw [stm_0 (n := n0) (f := f0) (pe := pe) (S := S) (by rw [h9]; decide) (by rw [h9]; decide) (by rw [h9]; decide) (by rw [h9]; decide) (by rw [h9]; decide) (by rw [h9]; decide)]; try rfl, by rw [stm_0 (n := n0) (f := f0) (pe := pe) (S := S) (by rw [h9]; decide) (by rw [h9]; decide) (by rw [h9]; decide) (by rw [h9]; decide) (by rw [h9]; decide) (by rw [h9]; decide)]; try rfl⟩) ⟨Nat.le_of_ble_eq_true rfl, Nat.le_of_ble_eq_true rfl⟩ dX8_statement_155
  · rw [h9]
    refine lv_tableIn (pc := 8) (off := 146) (tgt := 154) hx hb dX8_statement_8 (by decide) (by decide) rfl rfl ?_
    refine lv_iconst (v := 0) (pc := 154) hx hb dX8_statement_154 (by decide) ?_
    exact e_z X hQ hr hW (u := [(h0, .inr (8, [.ref q, .int (nI n0), .int (nI S.1)])), (q, .inl (g.2.1 1, 400, .inl f0)), (v, .inr (10, [.int pe, .int (nI S.2.1), .int S.2.2.1, .ref v3, .ref v4, .ref v5, .ref v6, .ref v7, .ref v8, .ref v9, .ref v10, .ref v11, .ref v12, .ref v13, .int gl, .ref v15])), (v3, .inl (g.2.1 1, 4, .inl S.2.2.2.1)), (v4, .inl (g.2.1 1, 4, .inl S.2.2.2.2.1)), (v5, .inl (g.2.1 1, 4, .inl S.2.2.2.2.2.1)), (v9, .inl (g.2.1 1, 72, .inl S.2.2.2.2.2.2))]) rfl [5, 6, 0, 1, 2, 3, 4] rfl rfl (⟨by rw [stm_0 (n := n0) (f := f0) (pe := pe) (S := S) (by rw [h9]; decide) (by rw [h9]; decide) (by rw [h9]; decide) (by rw [h9]; decide) (by rw [h9]; decide) (by rw [h9]; decide)]; try rfl, by rw [stm_0 (n := n0) (f := f0) (pe := pe) (S := S) (by rw [h9]; decide) (by rw [h9]; decide) (by rw [h9]; decide) (by rw [h9]; decide) (by rw [h9]; decide) (by rw [h9]; decide)]; try rfl⟩) ⟨Nat.le_of_ble_eq_true rfl, Nat.le_of_ble_eq_true rfl⟩ dX8_statement_155
  · rw [h9]
    refine lv_tableIn (pc := 8) (off := 103) (tgt := 111) hx hb dX8_statement_8 (by decide) (by decide) rfl rfl ?_
    have hlt := at_lt hn0 (show S.1 < 2 ^ 31 by omega) (by rw [h9]; decide)
    refine lv_aload_n (pc := 111) hx hb dX8_statement_111 rfl (lv_at hl 0 rfl) ?_
    refine lv_aload_n (pc := 112) hx hb dX8_statement_112 rfl (lv_at hl 1 rfl) ?_
    refine lv_iconst (v := 1) (pc := 113) hx hb dX8_statement_113 (by decide) ?_
    refine c_Vi (pc := 114) (As := [.ref v, .int 1]) (rest := []) (wr := [(v3, .inl (g.2.1 1, 4, .inl S.2.2.2.1)), (v4, .inl (g.2.1 1, 4, .inl S.2.2.2.2.1)), (v5, .inl (g.2.1 1, 4, .inl S.2.2.2.2.2.1))]) X hW 5 ciX8 rfl (C_X8_lineOfG l g h0 q f0 n0 hn0 v v3 v4 v5 v6 v7 v8 v9 v10 v11 v12 v13 v15 pe S.2.2.1 gl S.2.1 S.2.2.2.2.2.2 1 S.1 (by omega) (by omega)) vX8_52 [5, 6, 0, 4] [1, 2, 3] rfl rfl rfl rfl rfl rfl hl.1 rfl (Nat.le_of_ble_eq_true rfl) ⟨Nat.le_of_ble_eq_true rfl, Nat.le_of_ble_eq_true rfl⟩ ⟨Nat.le_of_ble_eq_true rfl, Nat.le_of_ble_eq_true rfl⟩ dX8_statement_114 (fun r5 u9 H locs hq hW => ?_)
    obtain ⟨rfl, rfl⟩ := hq
    have hW : WD g A s _ _ [(v3, .inl (g.2.1 1, 4, .inl S.2.2.2.1)), (v4, .inl (g.2.1 1, 4, .inl S.2.2.2.2.1)), (v5, .inl (g.2.1 1, 4, .inl S.2.2.2.2.2.1)), (h0, .inr (8, [.ref q, .int (nI n0), .int (nI (lK n0 f0 S.1 pe S.2.1))])), (q, .inl (g.2.1 1, 400, .inl f0)), (v, .inr (10, [.int pe, .int (nI (lC n0 f0 S.1 pe S.2.1)), .int S.2.2.1, .ref v3, .ref v4, .ref v5, .ref v6, .ref v7, .ref v8, .ref v9, .ref v10, .ref v11, .ref v12, .ref v13, .int gl, .ref v15])), (v9, .inl (g.2.1 1, 72, .inl (lL n0 f0 S.1 pe S.2.1 1 S.2.2.2.2.2.2)))] := hW
    exact e_z X hQ hr hW (u := [(h0, .inr (8, [.ref q, .int (nI n0), .int (nI (lK n0 f0 S.1 pe S.2.1))])), (q, .inl (g.2.1 1, 400, .inl f0)), (v, .inr (10, [.int pe, .int (nI (lC n0 f0 S.1 pe S.2.1)), .int S.2.2.1, .ref v3, .ref v4, .ref v5, .ref v6, .ref v7, .ref v8, .ref v9, .ref v10, .ref v11, .ref v12, .ref v13, .int gl, .ref v15])), (v3, .inl (g.2.1 1, 4, .inl S.2.2.2.1)), (v4, .inl (g.2.1 1, 4, .inl S.2.2.2.2.1)), (v5, .inl (g.2.1 1, 4, .inl S.2.2.2.2.2.1)), (v9, .inl (g.2.1 1, 72, .inl (lL n0 f0 S.1 pe S.2.1 1 S.2.2.2.2.2.2)))]) lOk_z [3, 4, 5, 0, 1, 2, 6] rfl rfl (⟨by rw [stm_o (n := n0) (f := f0) (pe := pe) (S := S) h9]; try rfl, by rw [stm_o (n := n0) (f := f0) (pe := pe) (S := S) h9]; try rfl⟩) ⟨Nat.le_of_ble_eq_true rfl, Nat.le_of_ble_eq_true rfl⟩ dX8_statement_117
  · rw [h9]
    refine lv_tableIn (pc := 8) (off := 146) (tgt := 154) hx hb dX8_statement_8 (by decide) (by decide) rfl rfl ?_
    refine lv_iconst (v := 0) (pc := 154) hx hb dX8_statement_154 (by decide) ?_
    exact e_z X hQ hr hW (u := [(h0, .inr (8, [.ref q, .int (nI n0), .int (nI S.1)])), (q, .inl (g.2.1 1, 400, .inl f0)), (v, .inr (10, [.int pe, .int (nI S.2.1), .int S.2.2.1, .ref v3, .ref v4, .ref v5, .ref v6, .ref v7, .ref v8, .ref v9, .ref v10, .ref v11, .ref v12, .ref v13, .int gl, .ref v15])), (v3, .inl (g.2.1 1, 4, .inl S.2.2.2.1)), (v4, .inl (g.2.1 1, 4, .inl S.2.2.2.2.1)), (v5, .inl (g.2.1 1, 4, .inl S.2.2.2.2.2.1)), (v9, .inl (g.2.1 1, 72, .inl S.2.2.2.2.2.2))]) rfl [5, 6, 0, 1, 2, 3, 4] rfl rfl (⟨by rw [stm_0 (n := n0) (f := f0) (pe := pe) (S := S) (by rw [h9]; decide) (by rw [h9]; decide) (by rw [h9]; decide) (by rw [h9]; decide) (by rw [h9]; decide) (by rw [h9]; decide)]; try rfl, by rw [stm_0 (n := n0) (f := f0) (pe := pe) (S := S) (by rw [h9]; decide) (by rw [h9]; decide) (by rw [h9]; decide) (by rw [h9]; decide) (by rw [h9]; decide) (by rw [h9]; decide)]; try rfl⟩) ⟨Nat.le_of_ble_eq_true rfl, Nat.le_of_ble_eq_true rfl⟩ dX8_statement_155
  · rw [h9]
    refine lv_tableIn (pc := 8) (off := 146) (tgt := 154) hx hb dX8_statement_8 (by decide) (by decide) rfl rfl ?_
    refine lv_iconst (v := 0) (pc := 154) hx hb dX8_statement_154 (by decide) ?_
    exact e_z X hQ hr hW (u := [(h0, .inr (8, [.ref q, .int (nI n0), .int (nI S.1)])), (q, .inl (g.2.1 1, 400, .inl f0)), (v, .inr (10, [.int pe, .int (nI S.2.1), .int S.2.2.1, .ref v3, .ref v4, .ref v5, .ref v6, .ref v7, .ref v8, .ref v9, .ref v10, .ref v11, .ref v12, .ref v13, .int gl, .ref v15])), (v3, .inl (g.2.1 1, 4, .inl S.2.2.2.1)), (v4, .inl (g.2.1 1, 4, .inl S.2.2.2.2.1)), (v5, .inl (g.2.1 1, 4, .inl S.2.2.2.2.2.1)), (v9, .inl (g.2.1 1, 72, .inl S.2.2.2.2.2.2))]) rfl [5, 6, 0, 1, 2, 3, 4] rfl rfl (⟨by rw [stm_0 (n := n0) (f := f0) (pe := pe) (S := S) (by rw [h9]; decide) (by rw [h9]; decide) (by rw [h9]; decide) (by rw [h9]; decide) (by rw [h9]; decide) (by rw [h9]; decide)]; try rfl, by rw [stm_0 (n := n0) (f := f0) (pe := pe) (S := S) (by rw [h9]; decide) (by rw [h9]; decide) (by rw [h9]; decide) (by rw [h9]; decide) (by rw [h9]; decide) (by rw [h9]; decide)]; try rfl⟩) ⟨Nat.le_of_ble_eq_true rfl, Nat.le_of_ble_eq_true rfl⟩ dX8_statement_155
  · rw [h9]
    refine lv_tableIn (pc := 8) (off := 146) (tgt := 154) hx hb dX8_statement_8 (by decide) (by decide) rfl rfl ?_
    refine lv_iconst (v := 0) (pc := 154) hx hb dX8_statement_154 (by decide) ?_
    exact e_z X hQ hr hW (u := [(h0, .inr (8, [.ref q, .int (nI n0), .int (nI S.1)])), (q, .inl (g.2.1 1, 400, .inl f0)), (v, .inr (10, [.int pe, .int (nI S.2.1), .int S.2.2.1, .ref v3, .ref v4, .ref v5, .ref v6, .ref v7, .ref v8, .ref v9, .ref v10, .ref v11, .ref v12, .ref v13, .int gl, .ref v15])), (v3, .inl (g.2.1 1, 4, .inl S.2.2.2.1)), (v4, .inl (g.2.1 1, 4, .inl S.2.2.2.2.1)), (v5, .inl (g.2.1 1, 4, .inl S.2.2.2.2.2.1)), (v9, .inl (g.2.1 1, 72, .inl S.2.2.2.2.2.2))]) rfl [5, 6, 0, 1, 2, 3, 4] rfl rfl (⟨by rw [stm_0 (n := n0) (f := f0) (pe := pe) (S := S) (by rw [h9]; decide) (by rw [h9]; decide) (by rw [h9]; decide) (by rw [h9]; decide) (by rw [h9]; decide) (by rw [h9]; decide)]; try rfl, by rw [stm_0 (n := n0) (f := f0) (pe := pe) (S := S) (by rw [h9]; decide) (by rw [h9]; decide) (by rw [h9]; decide) (by rw [h9]; decide) (by rw [h9]; decide) (by rw [h9]; decide)]; try rfl⟩) ⟨Nat.le_of_ble_eq_true rfl, Nat.le_of_ble_eq_true rfl⟩ dX8_statement_155
  · rw [h9]
    refine lv_tableIn (pc := 8) (off := 130) (tgt := 138) hx hb dX8_statement_8 (by decide) (by decide) rfl rfl ?_
    have hlt := at_lt hn0 (show S.1 < 2 ^ 31 by omega) (by rw [h9]; decide)
    refine lv_aload_n (pc := 138) hx hb dX8_statement_138 rfl (lv_at hl 0 rfl) ?_
    refine lv_aload_n (pc := 139) hx hb dX8_statement_139 rfl (lv_at hl 1 rfl) ?_
    refine lv_aload_n (pc := 140) hx hb dX8_statement_140 rfl (lv_at hl 1 rfl) ?_
    refine r_getN X hW 0 ciX10 5 rfl (by decide) m_303 rfl rfl dX8_statement_141 ?_
    refine c_Vi (pc := 144) (As := [.ref v, .ref v5]) (rest := []) (wr := [(v3, .inl (g.2.1 1, 4, .inl S.2.2.2.1)), (v4, .inl (g.2.1 1, 4, .inl S.2.2.2.2.1)), (v9, .inl (g.2.1 1, 72, .inl S.2.2.2.2.2.2))]) X hW 5 ciX8 rfl (C_X8_newsOfE l g h0 q f0 n0 hn0 v v3 v4 v5 v6 v7 v8 v9 v10 v11 v12 v13 v15 pe (nI S.2.1) S.2.2.1 gl v5 S.2.2.2.2.2.1 S.1 (by omega)) vX8_59 [5, 6, 0, 3] [1, 2, 4] rfl rfl rfl rfl rfl rfl hl.1 rfl (Nat.le_of_ble_eq_true rfl) ⟨Nat.le_of_ble_eq_true rfl, Nat.le_of_ble_eq_true rfl⟩ ⟨Nat.le_of_ble_eq_true rfl, Nat.le_of_ble_eq_true rfl⟩ dX8_statement_144 (fun r6 u9 H locs hq hW => ?_)
    obtain ⟨rfl, rfl⟩ := hq
    have hW : WD g A s _ _ [(v3, .inl (g.2.1 1, 4, .inl S.2.2.2.1)), (v4, .inl (g.2.1 1, 4, .inl S.2.2.2.2.1)), (v9, .inl (g.2.1 1, 72, .inl S.2.2.2.2.2.2)), (h0, .inr (8, [.ref q, .int (nI n0), .int (nI (nK n0 f0 S.1 pe))])), (q, .inl (g.2.1 1, 400, .inl f0)), (v, .inr (10, [.int pe, .int (nI S.2.1), .int S.2.2.1, .ref v3, .ref v4, .ref v5, .ref v6, .ref v7, .ref v8, .ref v9, .ref v10, .ref v11, .ref v12, .ref v13, .int gl, .ref v15])), (v5, .inl (g.2.1 1, 4, .inl (nG n0 f0 S.1 pe S.2.2.2.2.2.1)))] := hW
    exact e_z X hQ hr hW (u := [(h0, .inr (8, [.ref q, .int (nI n0), .int (nI (nK n0 f0 S.1 pe))])), (q, .inl (g.2.1 1, 400, .inl f0)), (v, .inr (10, [.int pe, .int (nI S.2.1), .int S.2.2.1, .ref v3, .ref v4, .ref v5, .ref v6, .ref v7, .ref v8, .ref v9, .ref v10, .ref v11, .ref v12, .ref v13, .int gl, .ref v15])), (v3, .inl (g.2.1 1, 4, .inl S.2.2.2.1)), (v4, .inl (g.2.1 1, 4, .inl S.2.2.2.2.1)), (v5, .inl (g.2.1 1, 4, .inl (nG n0 f0 S.1 pe S.2.2.2.2.2.1))), (v9, .inl (g.2.1 1, 72, .inl S.2.2.2.2.2.2))]) nOk_z [3, 4, 5, 0, 1, 6, 2] rfl rfl (⟨by rw [stm_s (n := n0) (f := f0) (pe := pe) (S := S) h9]; try rfl, by rw [stm_s (n := n0) (f := f0) (pe := pe) (S := S) h9]; try rfl⟩) ⟨Nat.le_of_ble_eq_true rfl, Nat.le_of_ble_eq_true rfl⟩ dX8_statement_147
  · rw [h9]
    refine lv_tableIn (pc := 8) (off := 146) (tgt := 154) hx hb dX8_statement_8 (by decide) (by decide) rfl rfl ?_
    refine lv_iconst (v := 0) (pc := 154) hx hb dX8_statement_154 (by decide) ?_
    exact e_z X hQ hr hW (u := [(h0, .inr (8, [.ref q, .int (nI n0), .int (nI S.1)])), (q, .inl (g.2.1 1, 400, .inl f0)), (v, .inr (10, [.int pe, .int (nI S.2.1), .int S.2.2.1, .ref v3, .ref v4, .ref v5, .ref v6, .ref v7, .ref v8, .ref v9, .ref v10, .ref v11, .ref v12, .ref v13, .int gl, .ref v15])), (v3, .inl (g.2.1 1, 4, .inl S.2.2.2.1)), (v4, .inl (g.2.1 1, 4, .inl S.2.2.2.2.1)), (v5, .inl (g.2.1 1, 4, .inl S.2.2.2.2.2.1)), (v9, .inl (g.2.1 1, 72, .inl S.2.2.2.2.2.2))]) rfl [5, 6, 0, 1, 2, 3, 4] rfl rfl (⟨by rw [stm_0 (n := n0) (f := f0) (pe := pe) (S := S) (by rw [h9]; decide) (by rw [h9]; decide) (by rw [h9]; decide) (by rw [h9]; decide) (by rw [h9]; decide) (by rw [h9]; decide)]; try rfl, by rw [stm_0 (n := n0) (f := f0) (pe := pe) (S := S) (by rw [h9]; decide) (by rw [h9]; decide) (by rw [h9]; decide) (by rw [h9]; decide) (by rw [h9]; decide) (by rw [h9]; decide)]; try rfl⟩) ⟨Nat.le_of_ble_eq_true rfl, Nat.le_of_ble_eq_true rfl⟩ dX8_statement_155
  · rw [h9]
    refine lv_tableIn (pc := 8) (off := 146) (tgt := 154) hx hb dX8_statement_8 (by decide) (by decide) rfl rfl ?_
    refine lv_iconst (v := 0) (pc := 154) hx hb dX8_statement_154 (by decide) ?_
    exact e_z X hQ hr hW (u := [(h0, .inr (8, [.ref q, .int (nI n0), .int (nI S.1)])), (q, .inl (g.2.1 1, 400, .inl f0)), (v, .inr (10, [.int pe, .int (nI S.2.1), .int S.2.2.1, .ref v3, .ref v4, .ref v5, .ref v6, .ref v7, .ref v8, .ref v9, .ref v10, .ref v11, .ref v12, .ref v13, .int gl, .ref v15])), (v3, .inl (g.2.1 1, 4, .inl S.2.2.2.1)), (v4, .inl (g.2.1 1, 4, .inl S.2.2.2.2.1)), (v5, .inl (g.2.1 1, 4, .inl S.2.2.2.2.2.1)), (v9, .inl (g.2.1 1, 72, .inl S.2.2.2.2.2.2))]) rfl [5, 6, 0, 1, 2, 3, 4] rfl rfl (⟨by rw [stm_0 (n := n0) (f := f0) (pe := pe) (S := S) (by rw [h9]; decide) (by rw [h9]; decide) (by rw [h9]; decide) (by rw [h9]; decide) (by rw [h9]; decide) (by rw [h9]; decide)]; try rfl, by rw [stm_0 (n := n0) (f := f0) (pe := pe) (S := S) (by rw [h9]; decide) (by rw [h9]; decide) (by rw [h9]; decide) (by rw [h9]; decide) (by rw [h9]; decide) (by rw [h9]; decide)]; try rfl⟩) ⟨Nat.le_of_ble_eq_true rfl, Nat.le_of_ble_eq_true rfl⟩ dX8_statement_155
  · rw [h9]
    refine lv_tableIn (pc := 8) (off := 146) (tgt := 154) hx hb dX8_statement_8 (by decide) (by decide) rfl rfl ?_
    refine lv_iconst (v := 0) (pc := 154) hx hb dX8_statement_154 (by decide) ?_
    exact e_z X hQ hr hW (u := [(h0, .inr (8, [.ref q, .int (nI n0), .int (nI S.1)])), (q, .inl (g.2.1 1, 400, .inl f0)), (v, .inr (10, [.int pe, .int (nI S.2.1), .int S.2.2.1, .ref v3, .ref v4, .ref v5, .ref v6, .ref v7, .ref v8, .ref v9, .ref v10, .ref v11, .ref v12, .ref v13, .int gl, .ref v15])), (v3, .inl (g.2.1 1, 4, .inl S.2.2.2.1)), (v4, .inl (g.2.1 1, 4, .inl S.2.2.2.2.1)), (v5, .inl (g.2.1 1, 4, .inl S.2.2.2.2.2.1)), (v9, .inl (g.2.1 1, 72, .inl S.2.2.2.2.2.2))]) rfl [5, 6, 0, 1, 2, 3, 4] rfl rfl (⟨by rw [stm_0 (n := n0) (f := f0) (pe := pe) (S := S) (by rw [h9]; decide) (by rw [h9]; decide) (by rw [h9]; decide) (by rw [h9]; decide) (by rw [h9]; decide) (by rw [h9]; decide)]; try rfl, by rw [stm_0 (n := n0) (f := f0) (pe := pe) (S := S) (by rw [h9]; decide) (by rw [h9]; decide) (by rw [h9]; decide) (by rw [h9]; decide) (by rw [h9]; decide) (by rw [h9]; decide)]; try rfl⟩) ⟨Nat.le_of_ble_eq_true rfl, Nat.le_of_ble_eq_true rfl⟩ dX8_statement_155
  · rw [h9]
    refine lv_tableIn (pc := 8) (off := 120) (tgt := 128) hx hb dX8_statement_8 (by decide) (by decide) rfl rfl ?_
    have hlt := at_lt hn0 (show S.1 < 2 ^ 31 by omega) (by rw [h9]; decide)
    refine lv_aload_n (pc := 128) hx hb dX8_statement_128 rfl (lv_at hl 0 rfl) ?_
    refine lv_aload_n (pc := 129) hx hb dX8_statement_129 rfl (lv_at hl 1 rfl) ?_
    refine lv_aload_n (pc := 130) hx hb dX8_statement_130 rfl (lv_at hl 1 rfl) ?_
    refine r_getN X hW 0 ciX10 4 rfl (by decide) m_299 rfl rfl dX8_statement_131 ?_
    refine c_Vi (pc := 134) (As := [.ref v, .ref v4]) (rest := []) (wr := [(v3, .inl (g.2.1 1, 4, .inl S.2.2.2.1)), (v5, .inl (g.2.1 1, 4, .inl S.2.2.2.2.2.1)), (v9, .inl (g.2.1 1, 72, .inl S.2.2.2.2.2.2))]) X hW 5 ciX8 rfl (C_X8_newsOfE l g h0 q f0 n0 hn0 v v3 v4 v5 v6 v7 v8 v9 v10 v11 v12 v13 v15 pe (nI S.2.1) S.2.2.1 gl v4 S.2.2.2.2.1 S.1 (by omega)) vX8_59 [5, 6, 0, 2] [1, 3, 4] rfl rfl rfl rfl rfl rfl hl.1 rfl (Nat.le_of_ble_eq_true rfl) ⟨Nat.le_of_ble_eq_true rfl, Nat.le_of_ble_eq_true rfl⟩ ⟨Nat.le_of_ble_eq_true rfl, Nat.le_of_ble_eq_true rfl⟩ dX8_statement_134 (fun r7 u9 H locs hq hW => ?_)
    obtain ⟨rfl, rfl⟩ := hq
    have hW : WD g A s _ _ [(v3, .inl (g.2.1 1, 4, .inl S.2.2.2.1)), (v5, .inl (g.2.1 1, 4, .inl S.2.2.2.2.2.1)), (v9, .inl (g.2.1 1, 72, .inl S.2.2.2.2.2.2)), (h0, .inr (8, [.ref q, .int (nI n0), .int (nI (nK n0 f0 S.1 pe))])), (q, .inl (g.2.1 1, 400, .inl f0)), (v, .inr (10, [.int pe, .int (nI S.2.1), .int S.2.2.1, .ref v3, .ref v4, .ref v5, .ref v6, .ref v7, .ref v8, .ref v9, .ref v10, .ref v11, .ref v12, .ref v13, .int gl, .ref v15])), (v4, .inl (g.2.1 1, 4, .inl (nG n0 f0 S.1 pe S.2.2.2.2.1)))] := hW
    exact e_z X hQ hr hW (u := [(h0, .inr (8, [.ref q, .int (nI n0), .int (nI (nK n0 f0 S.1 pe))])), (q, .inl (g.2.1 1, 400, .inl f0)), (v, .inr (10, [.int pe, .int (nI S.2.1), .int S.2.2.1, .ref v3, .ref v4, .ref v5, .ref v6, .ref v7, .ref v8, .ref v9, .ref v10, .ref v11, .ref v12, .ref v13, .int gl, .ref v15])), (v3, .inl (g.2.1 1, 4, .inl S.2.2.2.1)), (v4, .inl (g.2.1 1, 4, .inl (nG n0 f0 S.1 pe S.2.2.2.2.1))), (v5, .inl (g.2.1 1, 4, .inl S.2.2.2.2.2.1)), (v9, .inl (g.2.1 1, 72, .inl S.2.2.2.2.2.2))]) nOk_z [3, 4, 5, 0, 6, 1, 2] rfl rfl (⟨by rw [stm_w (n := n0) (f := f0) (pe := pe) (S := S) h9]; try rfl, by rw [stm_w (n := n0) (f := f0) (pe := pe) (S := S) h9]; try rfl⟩) ⟨Nat.le_of_ble_eq_true rfl, Nat.le_of_ble_eq_true rfl⟩ dX8_statement_137
  · refine lv_tableOut (pc := 8) (tgt := 154) hx hb dX8_statement_8 h9 rfl ?_
    refine lv_iconst (v := 0) (pc := 154) hx hb dX8_statement_154 (by decide) ?_
    exact e_z X hQ hr hW (u := [(h0, .inr (8, [.ref q, .int (nI n0), .int (nI S.1)])), (q, .inl (g.2.1 1, 400, .inl f0)), (v, .inr (10, [.int pe, .int (nI S.2.1), .int S.2.2.1, .ref v3, .ref v4, .ref v5, .ref v6, .ref v7, .ref v8, .ref v9, .ref v10, .ref v11, .ref v12, .ref v13, .int gl, .ref v15])), (v3, .inl (g.2.1 1, 4, .inl S.2.2.2.1)), (v4, .inl (g.2.1 1, 4, .inl S.2.2.2.2.1)), (v5, .inl (g.2.1 1, 4, .inl S.2.2.2.2.2.1)), (v9, .inl (g.2.1 1, 72, .inl S.2.2.2.2.2.2))]) rfl [5, 6, 0, 1, 2, 3, 4] rfl rfl (⟨by rw [stm_0 (n := n0) (f := f0) (pe := pe) (S := S) (fun e9 => by rw [e9] at h9; revert h9; decide) (fun e9 => by rw [e9] at h9; revert h9; decide) (fun e9 => by rw [e9] at h9; revert h9; decide) (fun e9 => by rw [e9] at h9; revert h9; decide) (fun e9 => by rw [e9] at h9; revert h9; decide) (fun e9 => by rw [e9] at h9; revert h9; decide)]; try rfl, by rw [stm_0 (n := n0) (f := f0) (pe := pe) (S := S) (fun e9 => by rw [e9] at h9; revert h9; decide) (fun e9 => by rw [e9] at h9; revert h9; decide) (fun e9 => by rw [e9] at h9; revert h9; decide) (fun e9 => by rw [e9] at h9; revert h9; decide) (fun e9 => by rw [e9] at h9; revert h9; decide) (fun e9 => by rw [e9] at h9; revert h9; decide)]; try rfl⟩) ⟨Nat.le_of_ble_eq_true rfl, Nat.le_of_ble_eq_true rfl⟩ dX8_statement_155

set_option maxHeartbeats 4000000 in
set_option maxRecDepth 100000 in
theorem C_J7_fillE (l : Launch) (g : GG) (q N : Nat) (f0 : Nat → Int32) (v : Int32) (hN : N < 2 ^ 31) : MetV l g yJ7_fill_53178 cJ7_fill_53178 4 none 0 0 0 [.ref q, .int v] [(q, .inl (g.2.1 1, N, .inl f0))] (fun u => u = [(q, .inl (g.2.1 1, N, .inl (fun _ => v)))]) := by
  refine MetV.of (own := RJ7) rfl (by decide) (Nat.le_of_ble_eq_true rfl) ?_
  intro p e s m below meth c A ls args Q hQ X hr hin hW hl
  have hx := X.1
  have hb := X.2.1
  have hl : lv_has ls 4 [(0, .ref q), (1, .int v)] := hl
  refine lv_iconst (v := 0) (pc := 0) hx hb dJ7_fill_53178_0 (by decide) ?_
  refine lv_istore_n (lv' := [(2, .int 0), (0, .ref q), (1, .int v)]) (pc := 1) hx hb dJ7_fill_53178_1 rfl hl (by decide) rfl (fun ls hl => ?_)
  refine lv_aload_n (pc := 2) hx hb dJ7_fill_53178_2 rfl (lv_at hl 1 rfl) ?_
  refine r_alen (v := nI N) X hW 0 1 rfl rfl rfl dJ7_fill_53178_3 ?_
  refine lv_istore_n (lv' := [(3, .int (nI N)), (2, .int 0), (0, .ref q), (1, .int v)]) (pc := 4) hx hb dJ7_fill_53178_4 rfl hl (by decide) rfl (fun ls hl => ?_)
  have loop1 : ∀ (fu : Nat) (i : Nat) (f : Nat → Int32), (N < fu + i) → (i ≤ N) → (∀ j : Nat, j < i → f j = v) → ∀ (H : Heap) (locs : List Loc) (ls : Array Slot), WD g A s H locs [(q, .inl (g.2.1 1, N, .inl f))] → lv_has ls 4 [(0, .ref q), (1, .int v), (2, .int (nI i)), (3, .int (nI N))] → W p l e (RM 0 0 0) s m args below meth c H locs 0 0 Q (F0 m 5 ls []) := by
    intro fu
    induction fu with
    | zero =>
      intro i f hm hi hz
      exact absurd hm (by omega)
    | succ fu ih1 =>
      intro i f hm hi hz H locs ls hW hl
      refine lv_iload_n (pc := 5) hx hb dJ7_fill_53178_5 rfl (lv_at hl 2 rfl) ?_
      refine lv_iload_n (pc := 6) hx hb dJ7_fill_53178_6 rfl (lv_at hl 3 rfl) ?_
      refine lv_icmp_ge (tgt := 20) (pc := 7) hx hb dJ7_fill_53178_7 rfl (fun c1 => ?_) (fun c1 => ?_)
      · have hge : N ≤ i := ge_t (by omega) hN c1
        have hW : WD g A s _ _ [(q, .inl (g.2.1 1, N, .inl (fun _ => v)))] := WD_int hW (fun j hj => hz j (by omega))
        exact e_v X hQ hr hW (u := [(q, .inl (g.2.1 1, N, .inl (fun _ => v)))]) [0] rfl rfl (rfl) ⟨Nat.le_of_ble_eq_true rfl, Nat.le_of_ble_eq_true rfl⟩ dJ7_fill_53178_20
      · have hlt : i < N := ge_f (by omega) hN c1
        refine lv_aload_n (pc := 10) hx hb dJ7_fill_53178_10 rfl (lv_at hl 0 rfl) ?_
        refine lv_iload_n (pc := 11) hx hb dJ7_fill_53178_11 rfl (lv_at hl 2 rfl) ?_
        refine lv_iload_n (pc := 12) hx hb dJ7_fill_53178_12 rfl (lv_at hl 1 rfl) ?_
        obtain ⟨f2, ef2⟩ : ∃ fz : Nat → Int32, upd f (nI i).toNatClampNeg v = fz := ⟨_, rfl⟩
        refine r_iast (ws' := [(q, .inl (g.2.1 1, N, .inl f2))]) X hW 0 rfl (vp_in_nI hlt hN) ef2 rfl dJ7_fill_53178_13 (fun H locs hW => ?_)
        refine lv_iinc (v := nI (i + 1)) (lv' := [(2, .int (nI (i + 1))), (0, .ref q), (1, .int v), (3, .int (nI N))]) (pc := 14) hx hb dJ7_fill_53178_14 hl (k := 2) rfl (nI_1 i) (by decide) rfl (fun ls hl => ?_)
        refine lv_goto (tgt := 5) (pc := 17) hx hb dJ7_fill_53178_17 rfl ?_
        exact ih1 (i + 1) f2 (by omega) (by omega) (fun j hj => by
            rw [← ef2, nI_clamp (by omega)]
            by_cases e0 : j = i
            · subst e0; simp only [upd, if_true]
            · simp only [upd, e0, if_false]; exact hz j (by omega)) _ _ _ hW (lv_sub hl [1, 2, 0, 3] rfl)
  exact loop1 (N + 1) 0 f0 (by omega) (by omega) (fun j hj => absurd hj (Nat.not_lt_zero j)) _ _ _ hW (lv_sub hl [2, 3, 1, 0] rfl)

set_option maxHeartbeats 4000000 in
set_option maxRecDepth 100000 in
theorem C_X10_forgetG (l : Launch) (g : GG) (v v3 v4 v5 v6 v7 v8 v9 v10 v11 v12 v13 v15 : Nat) (pe lc de gl : Int32) (g1 g2 g3 : Nat → Int32) : MetV l g yX10_forget cX10_forget 1 none 1 0 0 [.ref v] [(v, .inr (10, [.int pe, .int lc, .int de, .ref v3, .ref v4, .ref v5, .ref v6, .ref v7, .ref v8, .ref v9, .ref v10, .ref v11, .ref v12, .ref v13, .int gl, .ref v15])), (v3, .inl (g.2.1 1, 4, .inl g1)), (v4, .inl (g.2.1 1, 4, .inl g2)), (v5, .inl (g.2.1 1, 4, .inl g3))] (fun u => u = [(v, .inr (10, [.int 0, .int 0, .int 0, .ref v3, .ref v4, .ref v5, .ref v6, .ref v7, .ref v8, .ref v9, .ref v10, .ref v11, .ref v12, .ref v13, .int gl, .ref v15])), (v3, .inl (g.2.1 1, 4, .inl (fun _ => 0))), (v4, .inl (g.2.1 1, 4, .inl (fun _ => 0))), (v5, .inl (g.2.1 1, 4, .inl (fun _ => 0)))]) := by
  refine MetV.of (own := RX10) rfl (by decide) (Nat.le_of_ble_eq_true rfl) ?_
  intro p e s m below meth c A ls args Q hQ X hr hin hW hl
  have hx := X.1
  have hb := X.2.1
  have hl : lv_has ls 1 [(0, .ref v)] := hl
  refine lv_aload_n (pc := 0) hx hb dX10_forget_0 rfl (lv_at hl 0 rfl) ?_
  refine lv_iconst (v := 0) (pc := 1) hx hb dX10_forget_1 (by decide) ?_
  refine r_put (ws' := [(v, .inr (10, [.int 0, .int lc, .int de, .ref v3, .ref v4, .ref v5, .ref v6, .ref v7, .ref v8, .ref v9, .ref v10, .ref v11, .ref v12, .ref v13, .int gl, .ref v15])), (v3, .inl (g.2.1 1, 4, .inl g1)), (v4, .inl (g.2.1 1, 4, .inl g2)), (v5, .inl (g.2.1 1, 4, .inl g3))]) X hW 0 ciX10 0 rfl (by decide) m_272 rfl rfl rfl rfl (Nat.le_of_ble_eq_true rfl) rfl dX10_forget_2 (fun H locs hW => ?_)
  refine lv_aload_n (pc := 5) hx hb dX10_forget_5 rfl (lv_at hl 0 rfl) ?_
  refine lv_iconst (v := 0) (pc := 6) hx hb dX10_forget_6 (by decide) ?_
  refine r_put (ws' := [(v, .inr (10, [.int 0, .int 0, .int de, .ref v3, .ref v4, .ref v5, .ref v6, .ref v7, .ref v8, .ref v9, .ref v10, .ref v11, .ref v12, .ref v13, .int gl, .ref v15])), (v3, .inl (g.2.1 1, 4, .inl g1)), (v4, .inl (g.2.1 1, 4, .inl g2)), (v5, .inl (g.2.1 1, 4, .inl g3))]) X hW 0 ciX10 1 rfl (by decide) m_280 rfl rfl rfl rfl (Nat.le_of_ble_eq_true rfl) rfl dX10_forget_7 (fun H locs hW => ?_)
  refine lv_aload_n (pc := 10) hx hb dX10_forget_10 rfl (lv_at hl 0 rfl) ?_
  refine lv_iconst (v := 0) (pc := 11) hx hb dX10_forget_11 (by decide) ?_
  refine r_put (ws' := [(v, .inr (10, [.int 0, .int 0, .int 0, .ref v3, .ref v4, .ref v5, .ref v6, .ref v7, .ref v8, .ref v9, .ref v10, .ref v11, .ref v12, .ref v13, .int gl, .ref v15])), (v3, .inl (g.2.1 1, 4, .inl g1)), (v4, .inl (g.2.1 1, 4, .inl g2)), (v5, .inl (g.2.1 1, 4, .inl g3))]) X hW 0 ciX10 2 rfl (by decide) m_285 rfl rfl rfl rfl (Nat.le_of_ble_eq_true rfl) rfl dX10_forget_12 (fun H locs hW => ?_)
  refine lv_aload_n (pc := 15) hx hb dX10_forget_15 rfl (lv_at hl 0 rfl) ?_
  refine r_get X hW 0 ciX10 3 rfl (by decide) m_291 rfl rfl dX10_forget_16 ?_
  refine lv_iconst (v := 0) (pc := 19) hx hb dX10_forget_19 (by decide) ?_
  refine c_Sv (pc := 20) (As := [.ref v3, .int 0]) (rest := []) (wr := [(v, .inr (10, [.int 0, .int 0, .int 0, .ref v3, .ref v4, .ref v5, .ref v6, .ref v7, .ref v8, .ref v9, .ref v10, .ref v11, .ref v12, .ref v13, .int gl, .ref v15])), (v4, .inl (g.2.1 1, 4, .inl g2)), (v5, .inl (g.2.1 1, 4, .inl g3))]) X hW (C_J7_fillE l g v3 4 g1 0 (by decide)) vX10_63 [1] [0, 2, 3] rfl rfl rfl rfl rfl rfl hl.1 rfl (Nat.le_of_ble_eq_true rfl) ⟨Nat.le_of_ble_eq_true rfl, Nat.le_of_ble_eq_true rfl⟩ ⟨Nat.le_of_ble_eq_true rfl, Nat.le_of_ble_eq_true rfl⟩ dX10_forget_20 (fun u9 H locs hq hW => ?_)
  obtain rfl := hq
  have hW : WD g A s _ _ [(v, .inr (10, [.int 0, .int 0, .int 0, .ref v3, .ref v4, .ref v5, .ref v6, .ref v7, .ref v8, .ref v9, .ref v10, .ref v11, .ref v12, .ref v13, .int gl, .ref v15])), (v4, .inl (g.2.1 1, 4, .inl g2)), (v5, .inl (g.2.1 1, 4, .inl g3)), (v3, .inl (g.2.1 1, 4, .inl (fun _ => 0)))] := hW
  refine lv_aload_n (pc := 23) hx hb dX10_forget_23 rfl (lv_at hl 0 rfl) ?_
  refine r_get X hW 0 ciX10 4 rfl (by decide) m_296 rfl rfl dX10_forget_24 ?_
  refine lv_iconst (v := 0) (pc := 27) hx hb dX10_forget_27 (by decide) ?_
  refine c_Sv (pc := 28) (As := [.ref v4, .int 0]) (rest := []) (wr := [(v, .inr (10, [.int 0, .int 0, .int 0, .ref v3, .ref v4, .ref v5, .ref v6, .ref v7, .ref v8, .ref v9, .ref v10, .ref v11, .ref v12, .ref v13, .int gl, .ref v15])), (v5, .inl (g.2.1 1, 4, .inl g3)), (v3, .inl (g.2.1 1, 4, .inl (fun _ => 0)))]) X hW (C_J7_fillE l g v4 4 g2 0 (by decide)) vX10_63 [1] [0, 2, 3] rfl rfl rfl rfl rfl rfl hl.1 rfl (Nat.le_of_ble_eq_true rfl) ⟨Nat.le_of_ble_eq_true rfl, Nat.le_of_ble_eq_true rfl⟩ ⟨Nat.le_of_ble_eq_true rfl, Nat.le_of_ble_eq_true rfl⟩ dX10_forget_28 (fun u9 H locs hq hW => ?_)
  obtain rfl := hq
  have hW : WD g A s _ _ [(v, .inr (10, [.int 0, .int 0, .int 0, .ref v3, .ref v4, .ref v5, .ref v6, .ref v7, .ref v8, .ref v9, .ref v10, .ref v11, .ref v12, .ref v13, .int gl, .ref v15])), (v5, .inl (g.2.1 1, 4, .inl g3)), (v3, .inl (g.2.1 1, 4, .inl (fun _ => 0))), (v4, .inl (g.2.1 1, 4, .inl (fun _ => 0)))] := hW
  refine lv_aload_n (pc := 31) hx hb dX10_forget_31 rfl (lv_at hl 0 rfl) ?_
  refine r_get X hW 0 ciX10 5 rfl (by decide) m_300 rfl rfl dX10_forget_32 ?_
  refine lv_iconst (v := 0) (pc := 35) hx hb dX10_forget_35 (by decide) ?_
  refine c_Sv (pc := 36) (As := [.ref v5, .int 0]) (rest := []) (wr := [(v, .inr (10, [.int 0, .int 0, .int 0, .ref v3, .ref v4, .ref v5, .ref v6, .ref v7, .ref v8, .ref v9, .ref v10, .ref v11, .ref v12, .ref v13, .int gl, .ref v15])), (v3, .inl (g.2.1 1, 4, .inl (fun _ => 0))), (v4, .inl (g.2.1 1, 4, .inl (fun _ => 0)))]) X hW (C_J7_fillE l g v5 4 g3 0 (by decide)) vX10_63 [1] [0, 2, 3] rfl rfl rfl rfl rfl rfl hl.1 rfl (Nat.le_of_ble_eq_true rfl) ⟨Nat.le_of_ble_eq_true rfl, Nat.le_of_ble_eq_true rfl⟩ ⟨Nat.le_of_ble_eq_true rfl, Nat.le_of_ble_eq_true rfl⟩ dX10_forget_36 (fun u9 H locs hq hW => ?_)
  obtain rfl := hq
  have hW : WD g A s _ _ [(v, .inr (10, [.int 0, .int 0, .int 0, .ref v3, .ref v4, .ref v5, .ref v6, .ref v7, .ref v8, .ref v9, .ref v10, .ref v11, .ref v12, .ref v13, .int gl, .ref v15])), (v3, .inl (g.2.1 1, 4, .inl (fun _ => 0))), (v4, .inl (g.2.1 1, 4, .inl (fun _ => 0))), (v5, .inl (g.2.1 1, 4, .inl (fun _ => 0)))] := hW
  exact e_v X hQ hr hW (u := [(v, .inr (10, [.int 0, .int 0, .int 0, .ref v3, .ref v4, .ref v5, .ref v6, .ref v7, .ref v8, .ref v9, .ref v10, .ref v11, .ref v12, .ref v13, .int gl, .ref v15])), (v3, .inl (g.2.1 1, 4, .inl (fun _ => 0))), (v4, .inl (g.2.1 1, 4, .inl (fun _ => 0))), (v5, .inl (g.2.1 1, 4, .inl (fun _ => 0)))]) [0, 1, 2, 3] rfl rfl (rfl) ⟨Nat.le_of_ble_eq_true rfl, Nat.le_of_ble_eq_true rfl⟩ dX10_forget_39

set_option maxHeartbeats 4000000 in
set_option maxRecDepth 100000 in
theorem C_X8_readG (l : Launch) (g : GG) (h0 q : Nat) (f0 : Nat → Int32) (n0 : Nat) (hn0 : n0 ≤ 400) (pl : Int32) (v v3 v4 v5 v6 v7 v8 v9 v10 v11 v12 v13 v15 : Nat) (pe lc de gl : Int32) (g1 g2 g3 L : Nat → Int32) : MetI l g yX8_read cX8_read 2 (some .int) 5 0 0 [.ref h0, .ref v] [(h0, .inr (8, [.ref q, .int (nI n0), .int pl])), (q, .inl (g.2.1 1, 400, .inl f0)), (v, .inr (10, [.int pe, .int lc, .int de, .ref v3, .ref v4, .ref v5, .ref v6, .ref v7, .ref v8, .ref v9, .ref v10, .ref v11, .ref v12, .ref v13, .int gl, .ref v15])), (v3, .inl (g.2.1 1, 4, .inl g1)), (v4, .inl (g.2.1 1, 4, .inl g2)), (v5, .inl (g.2.1 1, 4, .inl g3)), (v9, .inl (g.2.1 1, 72, .inl L))] (fun r u => r = (rdx n0 f0 L).1 ∧ u = [(h0, .inr (8, [.ref q, .int (nI n0), .int (nI (rdx n0 f0 L).2.2.1)])), (q, .inl (g.2.1 1, 400, .inl f0)), (v, .inr (10, [.int ((rdx n0 f0 L).2.1), .int (nI (rdx n0 f0 L).2.2.2.1), .int ((rdx n0 f0 L).2.2.2.2.1), .ref v3, .ref v4, .ref v5, .ref v6, .ref v7, .ref v8, .ref v9, .ref v10, .ref v11, .ref v12, .ref v13, .int gl, .ref v15])), (v3, .inl (g.2.1 1, 4, .inl ((rdx n0 f0 L).2.2.2.2.2.1))), (v4, .inl (g.2.1 1, 4, .inl ((rdx n0 f0 L).2.2.2.2.2.2.1))), (v5, .inl (g.2.1 1, 4, .inl ((rdx n0 f0 L).2.2.2.2.2.2.2.1))), (v9, .inl (g.2.1 1, 72, .inl ((rdx n0 f0 L).2.2.2.2.2.2.2.2)))]) := by
  refine MetI.of (own := RX8) rfl (by decide) (Nat.le_of_ble_eq_true rfl) ?_
  intro p e s m below meth c A ls args Q hQ X hr hin hW hl
  have hx := X.1
  have hb := X.2.1
  have hl : lv_has ls 2 [(0, .ref h0), (1, .ref v)] := hl
  refine lv_aload_n (pc := 0) hx hb dX8_read_0 rfl (lv_at hl 0 rfl) ?_
  refine lv_iconst (v := 0) (pc := 1) hx hb dX8_read_1 (by decide) ?_
  refine r_put (ws' := [(h0, .inr (8, [.ref q, .int (nI n0), .int 0])), (q, .inl (g.2.1 1, 400, .inl f0)), (v, .inr (10, [.int pe, .int lc, .int de, .ref v3, .ref v4, .ref v5, .ref v6, .ref v7, .ref v8, .ref v9, .ref v10, .ref v11, .ref v12, .ref v13, .int gl, .ref v15])), (v3, .inl (g.2.1 1, 4, .inl g1)), (v4, .inl (g.2.1 1, 4, .inl g2)), (v5, .inl (g.2.1 1, 4, .inl g3)), (v9, .inl (g.2.1 1, 72, .inl L))]) X hW 0 ciX8 2 rfl (by decide) m_39 rfl rfl rfl rfl (Nat.le_of_ble_eq_true rfl) rfl dX8_read_2 (fun H locs hW => ?_)
  refine lv_aload_n (pc := 5) hx hb dX8_read_5 rfl (lv_at hl 1 rfl) ?_
  refine c_Vv (pc := 6) (As := []) (rest := []) (wr := [(h0, .inr (8, [.ref q, .int (nI n0), .int 0])), (q, .inl (g.2.1 1, 400, .inl f0)), (v9, .inl (g.2.1 1, 72, .inl L))]) X hW 2 ciX10 rfl (C_X10_forgetG l g v v3 v4 v5 v6 v7 v8 v9 v10 v11 v12 v13 v15 pe lc de gl g1 g2 g3) vX8_30 [2, 3, 4, 5] [0, 1, 6] rfl rfl rfl rfl rfl rfl hl.1 rfl (Nat.le_of_ble_eq_true rfl) ⟨Nat.le_of_ble_eq_true rfl, Nat.le_of_ble_eq_true rfl⟩ ⟨Nat.le_of_ble_eq_true rfl, Nat.le_of_ble_eq_true rfl⟩ dX8_read_6 (fun u9 H locs hq hW => ?_)
  obtain rfl := hq
  have hW : WD g A s _ _ [(h0, .inr (8, [.ref q, .int (nI n0), .int 0])), (q, .inl (g.2.1 1, 400, .inl f0)), (v9, .inl (g.2.1 1, 72, .inl L)), (v, .inr (10, [.int 0, .int (nI 0), .int 0, .ref v3, .ref v4, .ref v5, .ref v6, .ref v7, .ref v8, .ref v9, .ref v10, .ref v11, .ref v12, .ref v13, .int gl, .ref v15])), (v3, .inl (g.2.1 1, 4, .inl (fun _ => 0))), (v4, .inl (g.2.1 1, 4, .inl (fun _ => 0))), (v5, .inl (g.2.1 1, 4, .inl (fun _ => 0)))] := hW
  refine lv_aload_n (pc := 9) hx hb dX8_read_9 rfl (lv_at hl 0 rfl) ?_
  refine c_Vv (pc := 10) (As := []) (rest := []) (wr := [(v9, .inl (g.2.1 1, 72, .inl L)), (v, .inr (10, [.int 0, .int (nI 0), .int 0, .ref v3, .ref v4, .ref v5, .ref v6, .ref v7, .ref v8, .ref v9, .ref v10, .ref v11, .ref v12, .ref v13, .int gl, .ref v15])), (v3, .inl (g.2.1 1, 4, .inl (fun _ => 0))), (v4, .inl (g.2.1 1, 4, .inl (fun _ => 0))), (v5, .inl (g.2.1 1, 4, .inl (fun _ => 0)))]) X hW 0 ciX8 rfl (C_X8_skipBlanksG l g h0 q f0 n0 hn0 0 (by omega)) vX8_35 [0, 1] [2, 3, 4, 5, 6] rfl rfl rfl rfl rfl rfl hl.1 rfl (Nat.le_of_ble_eq_true rfl) ⟨Nat.le_of_ble_eq_true rfl, Nat.le_of_ble_eq_true rfl⟩ ⟨Nat.le_of_ble_eq_true rfl, Nat.le_of_ble_eq_true rfl⟩ dX8_read_10 (fun u9 H locs hq hW => ?_)
  obtain rfl := hq
  have hs10 := skn_le (f := f0) (show 0 ≤ n0 by omega)
  have hW : WD g A s _ _ [(v9, .inl (g.2.1 1, 72, .inl L)), (v, .inr (10, [.int 0, .int (nI 0), .int 0, .ref v3, .ref v4, .ref v5, .ref v6, .ref v7, .ref v8, .ref v9, .ref v10, .ref v11, .ref v12, .ref v13, .int gl, .ref v15])), (v3, .inl (g.2.1 1, 4, .inl (fun _ => 0))), (v4, .inl (g.2.1 1, 4, .inl (fun _ => 0))), (v5, .inl (g.2.1 1, 4, .inl (fun _ => 0))), (h0, .inr (8, [.ref q, .int (nI n0), .int (nI (skn n0 f0 0))])), (q, .inl (g.2.1 1, 400, .inl f0))] := hW
  refine lv_aload_n (pc := 13) hx hb dX8_read_13 rfl (lv_at hl 0 rfl) ?_
  refine lv_aload_n (pc := 14) hx hb dX8_read_14 rfl (lv_at hl 0 rfl) ?_
  refine r_get X hW 5 ciX8 2 rfl (by decide) m_39 rfl rfl dX8_read_15 ?_
  refine c_Vi (pc := 18) (As := [.int (nI (skn n0 f0 0))]) (rest := []) (wr := [(v9, .inl (g.2.1 1, 72, .inl L)), (v, .inr (10, [.int 0, .int (nI 0), .int 0, .ref v3, .ref v4, .ref v5, .ref v6, .ref v7, .ref v8, .ref v9, .ref v10, .ref v11, .ref v12, .ref v13, .int gl, .ref v15])), (v3, .inl (g.2.1 1, 4, .inl (fun _ => 0))), (v4, .inl (g.2.1 1, 4, .inl (fun _ => 0))), (v5, .inl (g.2.1 1, 4, .inl (fun _ => 0)))]) X hW 5 ciX8 rfl (C_X8_atG l g h0 q f0 n0 hn0 (nI (skn n0 f0 0)) (nI (skn n0 f0 0))) vX8_38 [5, 6] [0, 1, 2, 3, 4] rfl rfl rfl rfl rfl rfl hl.1 rfl (Nat.le_of_ble_eq_true rfl) ⟨Nat.le_of_ble_eq_true rfl, Nat.le_of_ble_eq_true rfl⟩ ⟨Nat.le_of_ble_eq_true rfl, Nat.le_of_ble_eq_true rfl⟩ dX8_read_18 (fun r1 u9 H locs hq hW => ?_)
  obtain ⟨rfl, rfl⟩ := hq
  have hW : WD g A s _ _ [(v9, .inl (g.2.1 1, 72, .inl L)), (v, .inr (10, [.int 0, .int (nI 0), .int 0, .ref v3, .ref v4, .ref v5, .ref v6, .ref v7, .ref v8, .ref v9, .ref v10, .ref v11, .ref v12, .ref v13, .int gl, .ref v15])), (v3, .inl (g.2.1 1, 4, .inl (fun _ => 0))), (v4, .inl (g.2.1 1, 4, .inl (fun _ => 0))), (v5, .inl (g.2.1 1, 4, .inl (fun _ => 0))), (h0, .inr (8, [.ref q, .int (nI n0), .int (nI (skn n0 f0 0))])), (q, .inl (g.2.1 1, 400, .inl f0))] := hW
  refine lv_bipush (v := 112) (pc := 21) hx hb dX8_read_21 (by decide) ?_
  refine lv_icmp_eq (tgt := 31) (pc := 23) hx hb dX8_read_23 rfl (fun c2 => ?_) (fun c2 => ?_)
  · have c_1 : ¬ ¬ atv n0 f0 (nI (skn n0 f0 0)) = 112 := fun h9 => h9 c2
    have hp0 := at_lt hn0 (show skn n0 f0 0 < 2 ^ 31 by omega) (by rw [c2]; decide)
    refine lv_aload_n (pc := 31) hx hb dX8_read_31 rfl (lv_at hl 0 rfl) ?_
    refine lv_dup (pc := 32) hx hb dX8_read_32 rfl ?_
    refine r_get X hW 5 ciX8 2 rfl (by decide) m_39 rfl rfl dX8_read_33 ?_
    refine lv_iconst (v := 1) (pc := 36) hx hb dX8_read_36 (by decide) ?_
    refine lv_iadd (pc := 37) hx hb dX8_read_37 ?_
    refine lv_topi (fun v3 ev3 => ?_)
    obtain rfl : v3 = nI (skn n0 f0 0 + 1) := ev3.trans (nI_1 _)
    refine r_put (ws' := [(v9, .inl (g.2.1 1, 72, .inl L)), (v, .inr (10, [.int 0, .int (nI 0), .int 0, .ref v3, .ref v4, .ref v5, .ref v6, .ref v7, .ref v8, .ref v9, .ref v10, .ref v11, .ref v12, .ref v13, .int gl, .ref v15])), (v3, .inl (g.2.1 1, 4, .inl (fun _ => 0))), (v4, .inl (g.2.1 1, 4, .inl (fun _ => 0))), (v5, .inl (g.2.1 1, 4, .inl (fun _ => 0))), (h0, .inr (8, [.ref q, .int (nI n0), .int (nI (skn n0 f0 0 + 1))])), (q, .inl (g.2.1 1, 400, .inl f0))]) X hW 5 ciX8 2 rfl (by decide) m_39 rfl rfl rfl rfl (Nat.le_of_ble_eq_true rfl) rfl dX8_read_38 (fun H locs hW => ?_)
    refine lv_aload_n (pc := 41) hx hb dX8_read_41 rfl (lv_at hl 1 rfl) ?_
    refine lv_aload_n (pc := 42) hx hb dX8_read_42 rfl (lv_at hl 0 rfl) ?_
    refine lv_iconst (v := 1) (pc := 43) hx hb dX8_read_43 (by decide) ?_
    refine lv_bipush (v := 7) (pc := 44) hx hb dX8_read_44 (by decide) ?_
    refine lv_iconst (v := (-1)) (pc := 46) hx hb dX8_read_46 (by decide) ?_
    refine c_Vi (pc := 47) (As := [.int 1, .int 7, .int (-1)]) (rest := [.ref v]) (wr := [(v9, .inl (g.2.1 1, 72, .inl L)), (v, .inr (10, [.int 0, .int (nI 0), .int 0, .ref v3, .ref v4, .ref v5, .ref v6, .ref v7, .ref v8, .ref v9, .ref v10, .ref v11, .ref v12, .ref v13, .int gl, .ref v15])), (v3, .inl (g.2.1 1, 4, .inl (fun _ => 0))), (v4, .inl (g.2.1 1, 4, .inl (fun _ => 0))), (v5, .inl (g.2.1 1, 4, .inl (fun _ => 0)))]) X hW 5 ciX8 rfl (C_X8_numberG l g h0 q f0 n0 hn0 (skn n0 f0 0 + 1) 1 7 (-1) (by omega)) vX8_41 [5, 6] [0, 1, 2, 3, 4] rfl rfl rfl rfl rfl rfl hl.1 rfl (Nat.le_of_ble_eq_true rfl) ⟨Nat.le_of_ble_eq_true rfl, Nat.le_of_ble_eq_true rfl⟩ ⟨Nat.le_of_ble_eq_true rfl, Nat.le_of_ble_eq_true rfl⟩ dX8_read_47 (fun r4 u9 H locs hq hW => ?_)
    obtain ⟨rfl, rfl⟩ := hq
    have hkp : nump n0 f0 (skn n0 f0 0 + 1) 1 7 (-1) ≤ n0 := nump_le hn0 (by omega)
    have hW : WD g A s _ _ [(v9, .inl (g.2.1 1, 72, .inl L)), (v, .inr (10, [.int 0, .int (nI 0), .int 0, .ref v3, .ref v4, .ref v5, .ref v6, .ref v7, .ref v8, .ref v9, .ref v10, .ref v11, .ref v12, .ref v13, .int gl, .ref v15])), (v3, .inl (g.2.1 1, 4, .inl (fun _ => 0))), (v4, .inl (g.2.1 1, 4, .inl (fun _ => 0))), (v5, .inl (g.2.1 1, 4, .inl (fun _ => 0))), (h0, .inr (8, [.ref q, .int (nI n0), .int (nI (nump n0 f0 (skn n0 f0 0 + 1) 1 7 (-1)))])), (q, .inl (g.2.1 1, 400, .inl f0))] := hW
    refine r_putN (ws' := [(v9, .inl (g.2.1 1, 72, .inl L)), (v, .inr (10, [.int (numr n0 f0 (skn n0 f0 0 + 1) 1 7 (-1)), .int (nI 0), .int 0, .ref v3, .ref v4, .ref v5, .ref v6, .ref v7, .ref v8, .ref v9, .ref v10, .ref v11, .ref v12, .ref v13, .int gl, .ref v15])), (v3, .inl (g.2.1 1, 4, .inl (fun _ => 0))), (v4, .inl (g.2.1 1, 4, .inl (fun _ => 0))), (v5, .inl (g.2.1 1, 4, .inl (fun _ => 0))), (h0, .inr (8, [.ref q, .int (nI n0), .int (nI (nump n0 f0 (skn n0 f0 0 + 1) 1 7 (-1)))])), (q, .inl (g.2.1 1, 400, .inl f0))]) X hW 1 ciX10 0 rfl (by decide) m_278 rfl rfl rfl rfl (Nat.le_of_ble_eq_true rfl) rfl dX8_read_50 (fun H locs hW => ?_)
    refine lv_aload_n (pc := 53) hx hb dX8_read_53 rfl (lv_at hl 1 rfl) ?_
    refine r_getN X hW 1 ciX10 0 rfl (by decide) m_278 rfl rfl dX8_read_54 ?_
    refine lv_iconst (v := (-1)) (pc := 57) hx hb dX8_read_57 (by decide) ?_
    refine lv_icmp_ne (tgt := 66) (pc := 58) hx hb dX8_read_58 rfl (fun c5 => ?_) (fun c5 => ?_)
    · have e9 : rdx n0 f0 L = ((rdl n0 f0 (numr n0 f0 (skn n0 f0 0 + 1) 1 7 (-1)) (n0 + 1) (TXS0 (skn n0 f0 (nump n0 f0 (skn n0 f0 0 + 1) 1 7 (-1))) L)).1, numr n0 f0 (skn n0 f0 0 + 1) 1 7 (-1), (rdl n0 f0 (numr n0 f0 (skn n0 f0 0 + 1) 1 7 (-1)) (n0 + 1) (TXS0 (skn n0 f0 (nump n0 f0 (skn n0 f0 0 + 1) 1 7 (-1))) L)).2) := by rw [rdx, if_neg c_1, if_neg c5]
      generalize ep : numr n0 f0 (skn n0 f0 0 + 1) 1 7 (-1) = pp at e9 hW hl
      refine lv_aload_n (pc := 66) hx hb dX8_read_66 rfl (lv_at hl 0 rfl) ?_
      refine c_Vv (pc := 67) (As := []) (rest := []) (wr := [(v9, .inl (g.2.1 1, 72, .inl L)), (v, .inr (10, [.int pp, .int (nI 0), .int 0, .ref v3, .ref v4, .ref v5, .ref v6, .ref v7, .ref v8, .ref v9, .ref v10, .ref v11, .ref v12, .ref v13, .int gl, .ref v15])), (v3, .inl (g.2.1 1, 4, .inl (fun _ => 0))), (v4, .inl (g.2.1 1, 4, .inl (fun _ => 0))), (v5, .inl (g.2.1 1, 4, .inl (fun _ => 0)))]) X hW 5 ciX8 rfl (C_X8_skipBlanksG l g h0 q f0 n0 hn0 (nump n0 f0 (skn n0 f0 0 + 1) 1 7 (-1)) (by omega)) vX8_35 [5, 6] [0, 1, 2, 3, 4] rfl rfl rfl rfl rfl rfl hl.1 rfl (Nat.le_of_ble_eq_true rfl) ⟨Nat.le_of_ble_eq_true rfl, Nat.le_of_ble_eq_true rfl⟩ ⟨Nat.le_of_ble_eq_true rfl, Nat.le_of_ble_eq_true rfl⟩ dX8_read_67 (fun u9 H locs hq hW => ?_)
      obtain rfl := hq
      have hs67 := skn_le (f := f0) (show (nump n0 f0 (skn n0 f0 0 + 1) 1 7 (-1)) ≤ n0 by omega)
      have hW : WD g A s _ _ [(v9, .inl (g.2.1 1, 72, .inl L)), (v, .inr (10, [.int pp, .int (nI 0), .int 0, .ref v3, .ref v4, .ref v5, .ref v6, .ref v7, .ref v8, .ref v9, .ref v10, .ref v11, .ref v12, .ref v13, .int gl, .ref v15])), (v3, .inl (g.2.1 1, 4, .inl (fun _ => 0))), (v4, .inl (g.2.1 1, 4, .inl (fun _ => 0))), (v5, .inl (g.2.1 1, 4, .inl (fun _ => 0))), (h0, .inr (8, [.ref q, .int (nI n0), .int (nI (skn n0 f0 (nump n0 f0 (skn n0 f0 0 + 1) 1 7 (-1))))])), (q, .inl (g.2.1 1, 400, .inl f0))] := hW
      have hW : WD g A s _ _ [(h0, .inr (8, [.ref q, .int (nI n0), .int (nI (TXS0 (skn n0 f0 (nump n0 f0 (skn n0 f0 0 + 1) 1 7 (-1))) L).1)])), (q, .inl (g.2.1 1, 400, .inl f0)), (v, .inr (10, [.int pp, .int (nI (TXS0 (skn n0 f0 (nump n0 f0 (skn n0 f0 0 + 1) 1 7 (-1))) L).2.1), .int ((TXS0 (skn n0 f0 (nump n0 f0 (skn n0 f0 0 + 1) 1 7 (-1))) L).2.2.1), .ref v3, .ref v4, .ref v5, .ref v6, .ref v7, .ref v8, .ref v9, .ref v10, .ref v11, .ref v12, .ref v13, .int gl, .ref v15])), (v3, .inl (g.2.1 1, 4, .inl ((TXS0 (skn n0 f0 (nump n0 f0 (skn n0 f0 0 + 1) 1 7 (-1))) L).2.2.2.1))), (v4, .inl (g.2.1 1, 4, .inl ((TXS0 (skn n0 f0 (nump n0 f0 (skn n0 f0 0 + 1) 1 7 (-1))) L).2.2.2.2.1))), (v5, .inl (g.2.1 1, 4, .inl ((TXS0 (skn n0 f0 (nump n0 f0 (skn n0 f0 0 + 1) 1 7 (-1))) L).2.2.2.2.2.1))), (v9, .inl (g.2.1 1, 72, .inl ((TXS0 (skn n0 f0 (nump n0 f0 (skn n0 f0 0 + 1) 1 7 (-1))) L).2.2.2.2.2.2)))] := hW.pick [5, 6, 1, 2, 3, 4, 0] rfl rfl
      have loop1 : ∀ (fu : Nat) (S : TXT), (n0 < fu + S.1) → (S.1 ≤ n0) → (S.2.1 ≤ 12) → (rdl n0 f0 pp (n0 + 1) (TXS0 (skn n0 f0 (nump n0 f0 (skn n0 f0 0 + 1) 1 7 (-1))) L) = rdl n0 f0 pp fu S) → ∀ (H : Heap) (locs : List Loc) (ls : Array Slot), WD g A s H locs [(h0, .inr (8, [.ref q, .int (nI n0), .int (nI S.1)])), (q, .inl (g.2.1 1, 400, .inl f0)), (v, .inr (10, [.int pp, .int (nI S.2.1), .int S.2.2.1, .ref v3, .ref v4, .ref v5, .ref v6, .ref v7, .ref v8, .ref v9, .ref v10, .ref v11, .ref v12, .ref v13, .int gl, .ref v15])), (v3, .inl (g.2.1 1, 4, .inl S.2.2.2.1)), (v4, .inl (g.2.1 1, 4, .inl S.2.2.2.2.1)), (v5, .inl (g.2.1 1, 4, .inl S.2.2.2.2.2.1)), (v9, .inl (g.2.1 1, 72, .inl S.2.2.2.2.2.2))] → lv_has ls 2 [(0, .ref h0), (1, .ref v)] → W p l e (RM 5 0 0) s m args below meth c H locs 0 0 Q (F0 m 70 ls []) := by
        intro fu
        induction fu with
        | zero =>
          intro S hm hk hc hsk
          exact absurd hm (by omega)
        | succ fu ih1 =>
          intro S hm hk hc hsk H locs ls hW hl
          refine lv_aload_n (pc := 70) hx hb dX8_read_70 rfl (lv_at hl 0 rfl) ?_
          refine r_get X hW 0 ciX8 2 rfl (by decide) m_39 rfl rfl dX8_read_71 ?_
          refine lv_aload_n (pc := 74) hx hb dX8_read_74 rfl (lv_at hl 0 rfl) ?_
          refine r_get X hW 0 ciX8 1 rfl (by decide) m_37 rfl rfl dX8_read_75 ?_
          refine lv_icmp_ge (tgt := 133) (pc := 78) hx hb dX8_read_78 rfl (fun c6 => ?_) (fun c6 => ?_)
          · have h_1 : n0 ≤ S.1 := (nI_leI (by omega) (by omega)).mp c6
            refine lv_iconst (v := (-1)) (pc := 133) hx hb dX8_read_133 (by decide) ?_
            exact e_i X hQ hr hW (u := [(h0, .inr (8, [.ref q, .int (nI n0), .int (nI S.1)])), (q, .inl (g.2.1 1, 400, .inl f0)), (v, .inr (10, [.int pp, .int (nI S.2.1), .int S.2.2.1, .ref v3, .ref v4, .ref v5, .ref v6, .ref v7, .ref v8, .ref v9, .ref v10, .ref v11, .ref v12, .ref v13, .int gl, .ref v15])), (v3, .inl (g.2.1 1, 4, .inl S.2.2.2.1)), (v4, .inl (g.2.1 1, 4, .inl S.2.2.2.2.1)), (v5, .inl (g.2.1 1, 4, .inl S.2.2.2.2.2.1)), (v9, .inl (g.2.1 1, 72, .inl S.2.2.2.2.2.2))]) [0, 1, 2, 3, 4, 5, 6] rfl rfl (⟨by rw [e9, hsk, rdl, if_pos h_1], by rw [e9, hsk, rdl, if_pos h_1]⟩) ⟨Nat.le_of_ble_eq_true rfl, Nat.le_of_ble_eq_true rfl⟩ dX8_read_134
          · have h_1 : ¬ n0 ≤ S.1 := fun q9 => c6 ((nI_leI (by omega) (by omega)).mpr q9)
            refine lv_aload_n (pc := 81) hx hb dX8_read_81 rfl (lv_at hl 0 rfl) ?_
            refine lv_aload_n (pc := 82) hx hb dX8_read_82 rfl (lv_at hl 0 rfl) ?_
            refine r_get X hW 0 ciX8 2 rfl (by decide) m_39 rfl rfl dX8_read_83 ?_
            refine c_Vi (pc := 86) (As := [.int (nI S.1)]) (rest := []) (wr := [(v, .inr (10, [.int pp, .int (nI S.2.1), .int S.2.2.1, .ref v3, .ref v4, .ref v5, .ref v6, .ref v7, .ref v8, .ref v9, .ref v10, .ref v11, .ref v12, .ref v13, .int gl, .ref v15])), (v3, .inl (g.2.1 1, 4, .inl S.2.2.2.1)), (v4, .inl (g.2.1 1, 4, .inl S.2.2.2.2.1)), (v5, .inl (g.2.1 1, 4, .inl S.2.2.2.2.2.1)), (v9, .inl (g.2.1 1, 72, .inl S.2.2.2.2.2.2))]) X hW 0 ciX8 rfl (C_X8_atG l g h0 q f0 n0 hn0 (nI S.1) (nI S.1)) vX8_38 [0, 1] [2, 3, 4, 5, 6] rfl rfl rfl rfl rfl rfl hl.1 rfl (Nat.le_of_ble_eq_true rfl) ⟨Nat.le_of_ble_eq_true rfl, Nat.le_of_ble_eq_true rfl⟩ ⟨Nat.le_of_ble_eq_true rfl, Nat.le_of_ble_eq_true rfl⟩ dX8_read_86 (fun r7 u9 H locs hq hW => ?_)
            obtain ⟨rfl, rfl⟩ := hq
            have hW : WD g A s _ _ [(v, .inr (10, [.int pp, .int (nI S.2.1), .int S.2.2.1, .ref v3, .ref v4, .ref v5, .ref v6, .ref v7, .ref v8, .ref v9, .ref v10, .ref v11, .ref v12, .ref v13, .int gl, .ref v15])), (v3, .inl (g.2.1 1, 4, .inl S.2.2.2.1)), (v4, .inl (g.2.1 1, 4, .inl S.2.2.2.2.1)), (v5, .inl (g.2.1 1, 4, .inl S.2.2.2.2.2.1)), (v9, .inl (g.2.1 1, 72, .inl S.2.2.2.2.2.2)), (h0, .inr (8, [.ref q, .int (nI n0), .int (nI S.1)])), (q, .inl (g.2.1 1, 400, .inl f0))] := hW
            refine lv_bipush (v := 59) (pc := 89) hx hb dX8_read_89 (by decide) ?_
            refine lv_icmp_eq (tgt := 99) (pc := 91) hx hb dX8_read_91 rfl (fun c8 => ?_) (fun c8 => ?_)
            · have h_2 : ¬ ¬ atv n0 f0 (nI S.1) = 59 := fun h9 => h9 c8
              have hlt := at_lt hn0 (show S.1 < 2 ^ 31 by omega) (by rw [c8]; decide)
              refine lv_aload_n (pc := 99) hx hb dX8_read_99 rfl (lv_at hl 0 rfl) ?_
              refine lv_dup (pc := 100) hx hb dX8_read_100 rfl ?_
              refine r_get X hW 5 ciX8 2 rfl (by decide) m_39 rfl rfl dX8_read_101 ?_
              refine lv_iconst (v := 1) (pc := 104) hx hb dX8_read_104 (by decide) ?_
              refine lv_iadd (pc := 105) hx hb dX8_read_105 ?_
              refine lv_topi (fun v9 ev9 => ?_)
              obtain rfl : v9 = nI (S.1 + 1) := ev9.trans (nI_1 _)
              refine r_put (ws' := [(v, .inr (10, [.int pp, .int (nI S.2.1), .int S.2.2.1, .ref v3, .ref v4, .ref v5, .ref v6, .ref v7, .ref v8, .ref v9, .ref v10, .ref v11, .ref v12, .ref v13, .int gl, .ref v15])), (v3, .inl (g.2.1 1, 4, .inl S.2.2.2.1)), (v4, .inl (g.2.1 1, 4, .inl S.2.2.2.2.1)), (v5, .inl (g.2.1 1, 4, .inl S.2.2.2.2.2.1)), (v9, .inl (g.2.1 1, 72, .inl S.2.2.2.2.2.2)), (h0, .inr (8, [.ref q, .int (nI n0), .int (nI (S.1 + 1))])), (q, .inl (g.2.1 1, 400, .inl f0))]) X hW 5 ciX8 2 rfl (by decide) m_39 rfl rfl rfl rfl (Nat.le_of_ble_eq_true rfl) rfl dX8_read_106 (fun H locs hW => ?_)
              refine lv_aload_n (pc := 109) hx hb dX8_read_109 rfl (lv_at hl 0 rfl) ?_
              refine c_Vv (pc := 110) (As := []) (rest := []) (wr := [(v, .inr (10, [.int pp, .int (nI S.2.1), .int S.2.2.1, .ref v3, .ref v4, .ref v5, .ref v6, .ref v7, .ref v8, .ref v9, .ref v10, .ref v11, .ref v12, .ref v13, .int gl, .ref v15])), (v3, .inl (g.2.1 1, 4, .inl S.2.2.2.1)), (v4, .inl (g.2.1 1, 4, .inl S.2.2.2.2.1)), (v5, .inl (g.2.1 1, 4, .inl S.2.2.2.2.2.1)), (v9, .inl (g.2.1 1, 72, .inl S.2.2.2.2.2.2))]) X hW 5 ciX8 rfl (C_X8_skipBlanksG l g h0 q f0 n0 hn0 (S.1 + 1) (by omega)) vX8_35 [5, 6] [0, 1, 2, 3, 4] rfl rfl rfl rfl rfl rfl hl.1 rfl (Nat.le_of_ble_eq_true rfl) ⟨Nat.le_of_ble_eq_true rfl, Nat.le_of_ble_eq_true rfl⟩ ⟨Nat.le_of_ble_eq_true rfl, Nat.le_of_ble_eq_true rfl⟩ dX8_read_110 (fun u9 H locs hq hW => ?_)
              obtain rfl := hq
              have hs110 := skn_le (f := f0) (show (S.1 + 1) ≤ n0 by omega)
              have hW : WD g A s _ _ [(v, .inr (10, [.int pp, .int (nI S.2.1), .int S.2.2.1, .ref v3, .ref v4, .ref v5, .ref v6, .ref v7, .ref v8, .ref v9, .ref v10, .ref v11, .ref v12, .ref v13, .int gl, .ref v15])), (v3, .inl (g.2.1 1, 4, .inl S.2.2.2.1)), (v4, .inl (g.2.1 1, 4, .inl S.2.2.2.2.1)), (v5, .inl (g.2.1 1, 4, .inl S.2.2.2.2.2.1)), (v9, .inl (g.2.1 1, 72, .inl S.2.2.2.2.2.2)), (h0, .inr (8, [.ref q, .int (nI n0), .int (nI (skn n0 f0 (S.1 + 1)))])), (q, .inl (g.2.1 1, 400, .inl f0))] := hW
              have hW : WD g A s _ _ [(h0, .inr (8, [.ref q, .int (nI n0), .int (nI (skn n0 f0 (S.1 + 1), S.2).1)])), (q, .inl (g.2.1 1, 400, .inl f0)), (v, .inr (10, [.int pp, .int (nI (skn n0 f0 (S.1 + 1), S.2).2.1), .int ((skn n0 f0 (S.1 + 1), S.2).2.2.1), .ref v3, .ref v4, .ref v5, .ref v6, .ref v7, .ref v8, .ref v9, .ref v10, .ref v11, .ref v12, .ref v13, .int gl, .ref v15])), (v3, .inl (g.2.1 1, 4, .inl ((skn n0 f0 (S.1 + 1), S.2).2.2.2.1))), (v4, .inl (g.2.1 1, 4, .inl ((skn n0 f0 (S.1 + 1), S.2).2.2.2.2.1))), (v5, .inl (g.2.1 1, 4, .inl ((skn n0 f0 (S.1 + 1), S.2).2.2.2.2.2.1))), (v9, .inl (g.2.1 1, 72, .inl ((skn n0 f0 (S.1 + 1), S.2).2.2.2.2.2.2)))] := hW.pick [5, 6, 0, 1, 2, 3, 4] rfl rfl
              refine lv_aload_n (pc := 113) hx hb dX8_read_113 rfl (lv_at hl 0 rfl) ?_
              refine lv_aload_n (pc := 114) hx hb dX8_read_114 rfl (lv_at hl 1 rfl) ?_
              refine c_Vi (pc := 115) (As := [.ref v]) (rest := []) (wr := []) X hW 0 ciX8 rfl (C_X8_statementG l g h0 q f0 n0 hn0 v v3 v4 v5 v6 v7 v8 v9 v10 v11 v12 v13 v15 pp gl (skn n0 f0 (S.1 + 1), S.2) (by omega) (by omega)) vX8_48 [0, 1, 2, 3, 4, 5, 6] [] rfl rfl rfl rfl rfl rfl hl.1 rfl (Nat.le_of_ble_eq_true rfl) ⟨Nat.le_of_ble_eq_true rfl, Nat.le_of_ble_eq_true rfl⟩ ⟨Nat.le_of_ble_eq_true rfl, Nat.le_of_ble_eq_true rfl⟩ dX8_read_115 (fun r10 u9 H locs hq hW => ?_)
              obtain ⟨rfl, rfl⟩ := hq
              obtain ⟨hs0, hs1, hs2⟩ := stm_le (f := f0) (pe := pp) (S := (skn n0 f0 (S.1 + 1), S.2)) hn0 (by omega) (by omega)
              have hW : WD g A s _ _ [(h0, .inr (8, [.ref q, .int (nI n0), .int (nI (stm n0 f0 pp (skn n0 f0 (S.1 + 1), S.2)).2.1)])), (q, .inl (g.2.1 1, 400, .inl f0)), (v, .inr (10, [.int pp, .int (nI (stm n0 f0 pp (skn n0 f0 (S.1 + 1), S.2)).2.2.1), .int ((stm n0 f0 pp (skn n0 f0 (S.1 + 1), S.2)).2.2.2.1), .ref v3, .ref v4, .ref v5, .ref v6, .ref v7, .ref v8, .ref v9, .ref v10, .ref v11, .ref v12, .ref v13, .int gl, .ref v15])), (v3, .inl (g.2.1 1, 4, .inl ((stm n0 f0 pp (skn n0 f0 (S.1 + 1), S.2)).2.2.2.2.1))), (v4, .inl (g.2.1 1, 4, .inl ((stm n0 f0 pp (skn n0 f0 (S.1 + 1), S.2)).2.2.2.2.2.1))), (v5, .inl (g.2.1 1, 4, .inl ((stm n0 f0 pp (skn n0 f0 (S.1 + 1), S.2)).2.2.2.2.2.2.1))), (v9, .inl (g.2.1 1, 72, .inl ((stm n0 f0 pp (skn n0 f0 (S.1 + 1), S.2)).2.2.2.2.2.2.2)))] := hW
              refine lv_if_ne (tgt := 126) (pc := 118) hx hb dX8_read_118 rfl (fun c11 => ?_) (fun c11 => ?_)
              · have h_3 := c11
                refine lv_aload_n (pc := 126) hx hb dX8_read_126 rfl (lv_at hl 0 rfl) ?_
                refine c_Vv (pc := 127) (As := []) (rest := []) (wr := [(v, .inr (10, [.int pp, .int (nI (stm n0 f0 pp (skn n0 f0 (S.1 + 1), S.2)).2.2.1), .int ((stm n0 f0 pp (skn n0 f0 (S.1 + 1), S.2)).2.2.2.1), .ref v3, .ref v4, .ref v5, .ref v6, .ref v7, .ref v8, .ref v9, .ref v10, .ref v11, .ref v12, .ref v13, .int gl, .ref v15])), (v3, .inl (g.2.1 1, 4, .inl ((stm n0 f0 pp (skn n0 f0 (S.1 + 1), S.2)).2.2.2.2.1))), (v4, .inl (g.2.1 1, 4, .inl ((stm n0 f0 pp (skn n0 f0 (S.1 + 1), S.2)).2.2.2.2.2.1))), (v5, .inl (g.2.1 1, 4, .inl ((stm n0 f0 pp (skn n0 f0 (S.1 + 1), S.2)).2.2.2.2.2.2.1))), (v9, .inl (g.2.1 1, 72, .inl ((stm n0 f0 pp (skn n0 f0 (S.1 + 1), S.2)).2.2.2.2.2.2.2)))]) X hW 0 ciX8 rfl (C_X8_skipBlanksG l g h0 q f0 n0 hn0 ((stm n0 f0 pp (skn n0 f0 (S.1 + 1), S.2)).2.1) (by omega)) vX8_35 [0, 1] [2, 3, 4, 5, 6] rfl rfl rfl rfl rfl rfl hl.1 rfl (Nat.le_of_ble_eq_true rfl) ⟨Nat.le_of_ble_eq_true rfl, Nat.le_of_ble_eq_true rfl⟩ ⟨Nat.le_of_ble_eq_true rfl, Nat.le_of_ble_eq_true rfl⟩ dX8_read_127 (fun u9 H locs hq hW => ?_)
                obtain rfl := hq
                have hs127 := skn_le (f := f0) (show ((stm n0 f0 pp (skn n0 f0 (S.1 + 1), S.2)).2.1) ≤ n0 by omega)
                have hW : WD g A s _ _ [(v, .inr (10, [.int pp, .int (nI (stm n0 f0 pp (skn n0 f0 (S.1 + 1), S.2)).2.2.1), .int ((stm n0 f0 pp (skn n0 f0 (S.1 + 1), S.2)).2.2.2.1), .ref v3, .ref v4, .ref v5, .ref v6, .ref v7, .ref v8, .ref v9, .ref v10, .ref v11, .ref v12, .ref v13, .int gl, .ref v15])), (v3, .inl (g.2.1 1, 4, .inl ((stm n0 f0 pp (skn n0 f0 (S.1 + 1), S.2)).2.2.2.2.1))), (v4, .inl (g.2.1 1, 4, .inl ((stm n0 f0 pp (skn n0 f0 (S.1 + 1), S.2)).2.2.2.2.2.1))), (v5, .inl (g.2.1 1, 4, .inl ((stm n0 f0 pp (skn n0 f0 (S.1 + 1), S.2)).2.2.2.2.2.2.1))), (v9, .inl (g.2.1 1, 72, .inl ((stm n0 f0 pp (skn n0 f0 (S.1 + 1), S.2)).2.2.2.2.2.2.2))), (h0, .inr (8, [.ref q, .int (nI n0), .int (nI (skn n0 f0 ((stm n0 f0 pp (skn n0 f0 (S.1 + 1), S.2)).2.1)))])), (q, .inl (g.2.1 1, 400, .inl f0))] := hW
                refine lv_goto (tgt := 70) (pc := 130) hx hb dX8_read_130 rfl ?_
                have hW : WD g A s _ _ [(h0, .inr (8, [.ref q, .int (nI n0), .int (nI (skn n0 f0 ((stm n0 f0 pp (skn n0 f0 (S.1 + 1), S.2)).2.1)))])), (q, .inl (g.2.1 1, 400, .inl f0)), (v, .inr (10, [.int pp, .int (nI (stm n0 f0 pp (skn n0 f0 (S.1 + 1), S.2)).2.2.1), .int ((stm n0 f0 pp (skn n0 f0 (S.1 + 1), S.2)).2.2.2.1), .ref v3, .ref v4, .ref v5, .ref v6, .ref v7, .ref v8, .ref v9, .ref v10, .ref v11, .ref v12, .ref v13, .int gl, .ref v15])), (v3, .inl (g.2.1 1, 4, .inl ((stm n0 f0 pp (skn n0 f0 (S.1 + 1), S.2)).2.2.2.2.1))), (v4, .inl (g.2.1 1, 4, .inl ((stm n0 f0 pp (skn n0 f0 (S.1 + 1), S.2)).2.2.2.2.2.1))), (v5, .inl (g.2.1 1, 4, .inl ((stm n0 f0 pp (skn n0 f0 (S.1 + 1), S.2)).2.2.2.2.2.2.1))), (v9, .inl (g.2.1 1, 72, .inl ((stm n0 f0 pp (skn n0 f0 (S.1 + 1), S.2)).2.2.2.2.2.2.2)))] := hW.pick [5, 6, 0, 1, 2, 3, 4] rfl rfl
                exact ih1 (skn n0 f0 (stm n0 f0 pp (skn n0 f0 (S.1 + 1), S.2)).2.1, (stm n0 f0 pp (skn n0 f0 (S.1 + 1), S.2)).2.2) (by have h8 : skn n0 f0 (S.1 + 1) ≤ (stm n0 f0 pp (skn n0 f0 (S.1 + 1), S.2)).2.1 := hs0; show n0 < fu + skn n0 f0 (stm n0 f0 pp (skn n0 f0 (S.1 + 1), S.2)).2.1; omega) (by show skn n0 f0 (stm n0 f0 pp (skn n0 f0 (S.1 + 1), S.2)).2.1 ≤ n0; omega) (by show (stm n0 f0 pp (skn n0 f0 (S.1 + 1), S.2)).2.2.1 ≤ 12; omega) (by rw [hsk, rdl, if_neg h_1, if_neg h_2, if_neg h_3]) _ _ _ hW (lv_sub hl [0, 1] rfl)
              · have h_3 := c11
                refine lv_aload_n (pc := 121) hx hb dX8_read_121 rfl (lv_at hl 0 rfl) ?_
                refine r_get X hW 0 ciX8 2 rfl (by decide) m_39 rfl rfl dX8_read_122 ?_
                exact e_i X hQ hr hW (u := [(h0, .inr (8, [.ref q, .int (nI n0), .int (nI (stm n0 f0 pp (skn n0 f0 (S.1 + 1), S.2)).2.1)])), (q, .inl (g.2.1 1, 400, .inl f0)), (v, .inr (10, [.int pp, .int (nI (stm n0 f0 pp (skn n0 f0 (S.1 + 1), S.2)).2.2.1), .int ((stm n0 f0 pp (skn n0 f0 (S.1 + 1), S.2)).2.2.2.1), .ref v3, .ref v4, .ref v5, .ref v6, .ref v7, .ref v8, .ref v9, .ref v10, .ref v11, .ref v12, .ref v13, .int gl, .ref v15])), (v3, .inl (g.2.1 1, 4, .inl ((stm n0 f0 pp (skn n0 f0 (S.1 + 1), S.2)).2.2.2.2.1))), (v4, .inl (g.2.1 1, 4, .inl ((stm n0 f0 pp (skn n0 f0 (S.1 + 1), S.2)).2.2.2.2.2.1))), (v5, .inl (g.2.1 1, 4, .inl ((stm n0 f0 pp (skn n0 f0 (S.1 + 1), S.2)).2.2.2.2.2.2.1))), (v9, .inl (g.2.1 1, 72, .inl ((stm n0 f0 pp (skn n0 f0 (S.1 + 1), S.2)).2.2.2.2.2.2.2)))]) [0, 1, 2, 3, 4, 5, 6] rfl rfl (⟨by rw [e9, hsk, rdl, if_neg h_1, if_neg h_2, if_pos h_3], by rw [e9, hsk, rdl, if_neg h_1, if_neg h_2, if_pos h_3]⟩) ⟨Nat.le_of_ble_eq_true rfl, Nat.le_of_ble_eq_true rfl⟩ dX8_read_125
            · have h_2 := c8
              refine lv_aload_n (pc := 94) hx hb dX8_read_94 rfl (lv_at hl 0 rfl) ?_
              refine r_get X hW 5 ciX8 2 rfl (by decide) m_39 rfl rfl dX8_read_95 ?_
              exact e_i X hQ hr hW (u := [(h0, .inr (8, [.ref q, .int (nI n0), .int (nI S.1)])), (q, .inl (g.2.1 1, 400, .inl f0)), (v, .inr (10, [.int pp, .int (nI S.2.1), .int S.2.2.1, .ref v3, .ref v4, .ref v5, .ref v6, .ref v7, .ref v8, .ref v9, .ref v10, .ref v11, .ref v12, .ref v13, .int gl, .ref v15])), (v3, .inl (g.2.1 1, 4, .inl S.2.2.2.1)), (v4, .inl (g.2.1 1, 4, .inl S.2.2.2.2.1)), (v5, .inl (g.2.1 1, 4, .inl S.2.2.2.2.2.1)), (v9, .inl (g.2.1 1, 72, .inl S.2.2.2.2.2.2))]) [5, 6, 0, 1, 2, 3, 4] rfl rfl (⟨by rw [e9, hsk, rdl, if_neg h_1, if_pos h_2], by rw [e9, hsk, rdl, if_neg h_1, if_pos h_2]⟩) ⟨Nat.le_of_ble_eq_true rfl, Nat.le_of_ble_eq_true rfl⟩ dX8_read_98
      exact loop1 (n0 + 1) (TXS0 (skn n0 f0 (nump n0 f0 (skn n0 f0 0 + 1) 1 7 (-1))) L) (by show n0 < n0 + 1 + skn n0 f0 (nump n0 f0 (skn n0 f0 0 + 1) 1 7 (-1)); omega) (by show skn n0 f0 (nump n0 f0 (skn n0 f0 0 + 1) 1 7 (-1)) ≤ n0; omega) (Nat.zero_le _) rfl _ _ _ hW (lv_sub hl [0, 1] rfl)
    · have e9 : rdx n0 f0 L = (nI (nump n0 f0 (skn n0 f0 0 + 1) 1 7 (-1)), -1, TXS0 (nump n0 f0 (skn n0 f0 0 + 1) 1 7 (-1)) L) := by rw [rdx, if_neg c_1, if_pos c5]
      have hpm : numr n0 f0 (skn n0 f0 0 + 1) 1 7 (-1) = -1 := c5
      refine lv_aload_n (pc := 61) hx hb dX8_read_61 rfl (lv_at hl 0 rfl) ?_
      refine r_get X hW 5 ciX8 2 rfl (by decide) m_39 rfl rfl dX8_read_62 ?_
      exact e_i X hQ hr hW (u := [(h0, .inr (8, [.ref q, .int (nI n0), .int (nI (nump n0 f0 (skn n0 f0 0 + 1) 1 7 (-1)))])), (q, .inl (g.2.1 1, 400, .inl f0)), (v, .inr (10, [.int (numr n0 f0 (skn n0 f0 0 + 1) 1 7 (-1)), .int (nI 0), .int 0, .ref v3, .ref v4, .ref v5, .ref v6, .ref v7, .ref v8, .ref v9, .ref v10, .ref v11, .ref v12, .ref v13, .int gl, .ref v15])), (v3, .inl (g.2.1 1, 4, .inl (fun _ => 0))), (v4, .inl (g.2.1 1, 4, .inl (fun _ => 0))), (v5, .inl (g.2.1 1, 4, .inl (fun _ => 0))), (v9, .inl (g.2.1 1, 72, .inl L))]) [5, 6, 1, 2, 3, 4, 0] rfl rfl (⟨by rw [e9], by rw [e9]; rw [hpm]⟩) ⟨Nat.le_of_ble_eq_true rfl, Nat.le_of_ble_eq_true rfl⟩ dX8_read_65
  · have e9 : rdx n0 f0 L = (nI (skn n0 f0 0), 0, TXS0 (skn n0 f0 0) L) := if_pos c2
    refine lv_aload_n (pc := 26) hx hb dX8_read_26 rfl (lv_at hl 0 rfl) ?_
    refine r_get X hW 5 ciX8 2 rfl (by decide) m_39 rfl rfl dX8_read_27 ?_
    exact e_i X hQ hr hW (u := [(h0, .inr (8, [.ref q, .int (nI n0), .int (nI (skn n0 f0 0))])), (q, .inl (g.2.1 1, 400, .inl f0)), (v, .inr (10, [.int 0, .int (nI 0), .int 0, .ref v3, .ref v4, .ref v5, .ref v6, .ref v7, .ref v8, .ref v9, .ref v10, .ref v11, .ref v12, .ref v13, .int gl, .ref v15])), (v3, .inl (g.2.1 1, 4, .inl (fun _ => 0))), (v4, .inl (g.2.1 1, 4, .inl (fun _ => 0))), (v5, .inl (g.2.1 1, 4, .inl (fun _ => 0))), (v9, .inl (g.2.1 1, 72, .inl L))]) [5, 6, 1, 2, 3, 4, 0] rfl rfl (⟨by rw [e9], by rw [e9]⟩) ⟨Nat.le_of_ble_eq_true rfl, Nat.le_of_ble_eq_true rfl⟩ dX8_read_30

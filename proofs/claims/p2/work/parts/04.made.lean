/-- base 3: the places of Spreading's tables -/
def pw3 : Nat → Nat → Nat
  | 0, _ => 0
  | k + 1, j => j % 2 + 3 * pw3 k (j / 2)
theorem pw3_step : ∀ i, i < 128 → pw3 7 i = i % 2 + 3 * pw3 7 (i / 2) := by decide +kernel
theorem pw3_in : ∀ k, k < 128 → ∀ o, o < 128 → k &&& o = 0 → 2 * pw3 7 k + pw3 7 o < 2187 := by decide +kernel
theorem pw3_lt : ∀ k, k < 128 → pw3 7 k < 1100 := by decide +kernel
theorem ge_t {i k : Nat} (hi : i < 2 ^ 31) (hk : k < 2 ^ 31) (h : nI k ≤ nI i) : k ≤ i := (nI_leI hk hi).mp h
theorem ge_f {i k : Nat} (hi : i < 2 ^ 31) (hk : k < 2 ^ 31) (h : ¬ nI k ≤ nI i) : i < k := Nat.not_le.mp fun q => h ((nI_leI hk hi).mpr q)
theorem lt_t {i k : Nat} (hi : i < 2 ^ 31) (hk : k < 2 ^ 31) (h : nI i < nI k) : i < k := (nI_ltI hi hk).mp h
theorem lt_f {i k : Nat} (hi : i < 2 ^ 31) (hk : k < 2 ^ 31) (h : ¬ nI i < nI k) : k ≤ i := Nat.not_lt.mp fun q => h ((nI_ltI hi hk).mpr q)
theorem upd_at {f f' : Nat → Int32} {i : Nat} {x : Int32} (hi : i < 2 ^ 31) (e : upd f (nI i).toNatClampNeg x = f') (j : Nat) : f' j = if j = i then x else f j := by
  rw [nI_clamp hi] at e
  rw [← e]
  by_cases h : j = i
  · subst h; simp [upd]
  · simp [upd, h]
theorem updL_at {f f' : Nat → Int64} {i : Nat} {x : Int64} (hi : i < 2 ^ 31) (e : vp_updL f (nI i).toNatClampNeg x = f') (j : Nat) : f' j = if j = i then x else f j := by
  rw [nI_clamp hi] at e
  rw [← e]
  by_cases h : j = i
  · subst h; simp [vp_updL]
  · simp [vp_updL, h]
theorem m_112 : (Cond.code yX7_state prog_9_method_2_code 2 (Option.some FieldType.int)) ∈ BW := bw (tb1 112 (by decide +kernel)) (by decide +kernel)
theorem dX7_state_0 : decode cX7_state 0 = .ok (.iload_n 0, 1) := by decide +kernel
theorem dX7_state_1 : decode cX7_state 1 = .ok (.iload_n 1, 1) := by decide +kernel
theorem dX7_state_2 : decode cX7_state 2 = .ok (.bipush 7, 2) := by decide +kernel
theorem dX7_state_4 : decode cX7_state 4 = .ok (.ishl, 1) := by decide +kernel
theorem dX7_state_5 : decode cX7_state 5 = .ok (.ior, 1) := by decide +kernel
theorem dX7_state_6 : decode cX7_state 6 = .ok (.ireturn, 1) := by decide +kernel
theorem m_79 : (Cond.code yX7_init prog_9_method_1_code 3 (Option.none : Option Jvm.ClassFile.FieldType)) ∈ BW := bw (tb1 79 (by decide +kernel)) (by decide +kernel)
theorem dX7_init_0 : decode cX7_init 0 = .ok (.aload_n 0, 1) := by decide +kernel
theorem m_80 : (Cond.methodLink "NoonValley$Spreading" 3 objectInit) ∈ BW := bw (tb1 80 (by decide +kernel)) (by decide +kernel)
theorem dX7_init_1 : decode cX7_init 1 = .ok (.invokespecial 3, 3) := by decide +kernel
theorem dX7_init_4 : decode cX7_init 4 = .ok (.aload_n 0, 1) := by decide +kernel
theorem m_81 : (Cond.classLink "NoonValley$Spreading" 9 "NoonValley$Rows") ∈ BW := bw (tb1 81 (by decide +kernel)) (by decide +kernel)
theorem m_82 : (Cond.instantiable "NoonValley$Rows" 6) ∈ BW := bw (tb1 82 (by decide +kernel)) (by decide +kernel)
theorem m_5 : (Cond.initialized "NoonValley$Rows") ∈ BW := bw (tb1 5 (by decide +kernel)) (by decide +kernel)
theorem dX7_init_5 : decode cX7_init 5 = .ok (.new 9, 3) := by decide +kernel
theorem dX7_init_8 : decode cX7_init 8 = .ok (.dup, 1) := by decide +kernel
theorem m_83 : (Cond.methodLinkNest "NoonValley$Spreading" 11 yX5_init "NoonValley") ∈ NWS := nw (tb1 83 (by decide +kernel)) (by decide +kernel)
theorem m_84 : (Cond.instanceMethod yX5_init) ∈ BW := bw (tb1 84 (by decide +kernel)) (by decide +kernel)
theorem vX7_11 : LIN RX7 11 "NoonValley" yX5_init cX5_init 1 0 := ⟨m_83, m_84, m_5, m_85, rfl, by decide, by decide, by decide +kernel⟩
theorem dX7_init_9 : decode cX7_init 9 = .ok (.invokespecial 11, 3) := by decide +kernel
theorem m_133 : (Cond.laysFinal "NoonValley$Spreading" "NoonValley$Spreading" "rows" "LNoonValley$Rows;") ∈ BW := bw (tb1 133 (by decide +kernel)) (by decide +kernel)
theorem m_135 : (Cond.lays "NoonValley$Spreading" "NoonValley$Spreading" "people" "I") ∈ BW := bw (tb1 135 (by decide +kernel)) (by decide +kernel)
theorem m_137 : (Cond.lays "NoonValley$Spreading" "NoonValley$Spreading" "deaf" "I") ∈ BW := bw (tb1 137 (by decide +kernel)) (by decide +kernel)
theorem m_139 : (Cond.lays "NoonValley$Spreading" "NoonValley$Spreading" "takingPart" "I") ∈ BW := bw (tb1 139 (by decide +kernel)) (by decide +kernel)
theorem m_141 : (Cond.lays "NoonValley$Spreading" "NoonValley$Spreading" "must" "I") ∈ BW := bw (tb1 141 (by decide +kernel)) (by decide +kernel)
theorem m_143 : (Cond.laysFinal "NoonValley$Spreading" "NoonValley$Spreading" "callable" "[I") ∈ BW := bw (tb1 143 (by decide +kernel)) (by decide +kernel)
theorem m_145 : (Cond.laysFinal "NoonValley$Spreading" "NoonValley$Spreading" "powers" "[I") ∈ BW := bw (tb1 145 (by decide +kernel)) (by decide +kernel)
theorem m_147 : (Cond.laysFinal "NoonValley$Spreading" "NoonValley$Spreading" "stateAt" "[I") ∈ BW := bw (tb1 147 (by decide +kernel)) (by decide +kernel)
theorem m_149 : (Cond.laysFinal "NoonValley$Spreading" "NoonValley$Spreading" "comeTo" "[I") ∈ BW := bw (tb1 149 (by decide +kernel)) (by decide +kernel)
theorem m_151 : (Cond.laysFinal "NoonValley$Spreading" "NoonValley$Spreading" "good" "[I") ∈ BW := bw (tb1 151 (by decide +kernel)) (by decide +kernel)
theorem m_153 : (Cond.lays "NoonValley$Spreading" "NoonValley$Spreading" "now" "[I") ∈ BW := bw (tb1 153 (by decide +kernel)) (by decide +kernel)
theorem m_155 : (Cond.lays "NoonValley$Spreading" "NoonValley$Spreading" "next" "[I") ∈ BW := bw (tb1 155 (by decide +kernel)) (by decide +kernel)
theorem m_157 : (Cond.lays "NoonValley$Spreading" "NoonValley$Spreading" "nowCount" "I") ∈ BW := bw (tb1 157 (by decide +kernel)) (by decide +kernel)
theorem m_159 : (Cond.lays "NoonValley$Spreading" "NoonValley$Spreading" "nextCount" "I") ∈ BW := bw (tb1 159 (by decide +kernel)) (by decide +kernel)
theorem m_161 : (Cond.lays "NoonValley$Spreading" "NoonValley$Spreading" "addedA" "I") ∈ BW := bw (tb1 161 (by decide +kernel)) (by decide +kernel)
theorem m_163 : (Cond.lays "NoonValley$Spreading" "NoonValley$Spreading" "addedB" "I") ∈ BW := bw (tb1 163 (by decide +kernel)) (by decide +kernel)
theorem m_165 : (Cond.lays "NoonValley$Spreading" "NoonValley$Spreading" "spared" "I") ∈ BW := bw (tb1 165 (by decide +kernel)) (by decide +kernel)
theorem ciX7 : CI 7 RX7 TX7 17 tyX7 := ⟨rfl, fun w hw => by
  obtain ⟨k, hk, rfl⟩ := List.mem_map.mp hw
  have hk := List.mem_range.mp hk
  match k, hk with
  | 0, _ => exact m_133
  | 1, _ => exact m_135
  | 2, _ => exact m_137
  | 3, _ => exact m_139
  | 4, _ => exact m_141
  | 5, _ => exact m_143
  | 6, _ => exact m_145
  | 7, _ => exact m_147
  | 8, _ => exact m_149
  | 9, _ => exact m_151
  | 10, _ => exact m_153
  | 11, _ => exact m_155
  | 12, _ => exact m_157
  | 13, _ => exact m_159
  | 14, _ => exact m_161
  | 15, _ => exact m_163
  | 16, _ => exact m_165
  | k + 17, h => exact absurd h (by omega), tyX7_ok, nmX7⟩
theorem m_113 : (Cond.fieldLink "NoonValley$Spreading" 12 "NoonValley$Spreading" "rows" "LNoonValley$Rows;") ∈ BW := bw (tb1 113 (by decide +kernel)) (by decide +kernel)
theorem dX7_init_12 : decode cX7_init 12 = .ok (.putfield 12, 3) := by decide +kernel
theorem dX7_init_15 : decode cX7_init 15 = .ok (.aload_n 0, 1) := by decide +kernel
theorem dX7_init_16 : decode cX7_init 16 = .ok (.sipush 175, 3) := by decide +kernel
theorem dX7_init_19 : decode cX7_init 19 = .ok (.newarray .int, 2) := by decide +kernel
theorem m_118 : (Cond.fieldLink "NoonValley$Spreading" 18 "NoonValley$Spreading" "callable" "[I") ∈ BW := bw (tb1 118 (by decide +kernel)) (by decide +kernel)
theorem dX7_init_21 : decode cX7_init 21 = .ok (.putfield 18, 3) := by decide +kernel
theorem dX7_init_24 : decode cX7_init 24 = .ok (.aload_n 0, 1) := by decide +kernel
theorem dX7_init_25 : decode cX7_init 25 = .ok (.sipush 128, 3) := by decide +kernel
theorem dX7_init_28 : decode cX7_init 28 = .ok (.newarray .int, 2) := by decide +kernel
theorem m_119 : (Cond.fieldLink "NoonValley$Spreading" 22 "NoonValley$Spreading" "powers" "[I") ∈ BW := bw (tb1 119 (by decide +kernel)) (by decide +kernel)
theorem dX7_init_30 : decode cX7_init 30 = .ok (.putfield 22, 3) := by decide +kernel
theorem dX7_init_33 : decode cX7_init 33 = .ok (.aload_n 0, 1) := by decide +kernel
theorem dX7_init_34 : decode cX7_init 34 = .ok (.sipush 2187, 3) := by decide +kernel
theorem dX7_init_37 : decode cX7_init 37 = .ok (.newarray .int, 2) := by decide +kernel
theorem m_120 : (Cond.fieldLink "NoonValley$Spreading" 25 "NoonValley$Spreading" "stateAt" "[I") ∈ BW := bw (tb1 120 (by decide +kernel)) (by decide +kernel)
theorem dX7_init_39 : decode cX7_init 39 = .ok (.putfield 25, 3) := by decide +kernel
theorem dX7_init_42 : decode cX7_init 42 = .ok (.aload_n 0, 1) := by decide +kernel
theorem dX7_init_43 : decode cX7_init 43 = .ok (.sipush 2187, 3) := by decide +kernel
theorem dX7_init_46 : decode cX7_init 46 = .ok (.newarray .int, 2) := by decide +kernel
theorem m_121 : (Cond.fieldLink "NoonValley$Spreading" 28 "NoonValley$Spreading" "comeTo" "[I") ∈ BW := bw (tb1 121 (by decide +kernel)) (by decide +kernel)
theorem dX7_init_48 : decode cX7_init 48 = .ok (.putfield 28, 3) := by decide +kernel
theorem dX7_init_51 : decode cX7_init 51 = .ok (.aload_n 0, 1) := by decide +kernel
theorem dX7_init_52 : decode cX7_init 52 = .ok (.sipush 2187, 3) := by decide +kernel
theorem dX7_init_55 : decode cX7_init 55 = .ok (.newarray .int, 2) := by decide +kernel
theorem m_122 : (Cond.fieldLink "NoonValley$Spreading" 31 "NoonValley$Spreading" "good" "[I") ∈ BW := bw (tb1 122 (by decide +kernel)) (by decide +kernel)
theorem dX7_init_57 : decode cX7_init 57 = .ok (.putfield 31, 3) := by decide +kernel
theorem dX7_init_60 : decode cX7_init 60 = .ok (.aload_n 0, 1) := by decide +kernel
theorem dX7_init_61 : decode cX7_init 61 = .ok (.sipush 2187, 3) := by decide +kernel
theorem dX7_init_64 : decode cX7_init 64 = .ok (.newarray .int, 2) := by decide +kernel
theorem m_123 : (Cond.fieldLink "NoonValley$Spreading" 34 "NoonValley$Spreading" "now" "[I") ∈ BW := bw (tb1 123 (by decide +kernel)) (by decide +kernel)
theorem dX7_init_66 : decode cX7_init 66 = .ok (.putfield 34, 3) := by decide +kernel
theorem dX7_init_69 : decode cX7_init 69 = .ok (.aload_n 0, 1) := by decide +kernel
theorem dX7_init_70 : decode cX7_init 70 = .ok (.sipush 2187, 3) := by decide +kernel
theorem dX7_init_73 : decode cX7_init 73 = .ok (.newarray .int, 2) := by decide +kernel
theorem m_124 : (Cond.fieldLink "NoonValley$Spreading" 37 "NoonValley$Spreading" "next" "[I") ∈ BW := bw (tb1 124 (by decide +kernel)) (by decide +kernel)
theorem dX7_init_75 : decode cX7_init 75 = .ok (.putfield 37, 3) := by decide +kernel
theorem dX7_init_78 : decode cX7_init 78 = .ok (.iconst 1, 1) := by decide +kernel
theorem dX7_init_79 : decode cX7_init 79 = .ok (.istore_n 1, 1) := by decide +kernel
theorem dX7_init_80 : decode cX7_init 80 = .ok (.iload_n 1, 1) := by decide +kernel
theorem dX7_init_81 : decode cX7_init 81 = .ok (.sipush 128, 3) := by decide +kernel
theorem dX7_init_84 : decode cX7_init 84 = .ok (.if_icmp .ge 29, 3) := by decide +kernel
theorem dX7_init_113 : decode cX7_init 113 = .ok (.iconst 0, 1) := by decide +kernel
theorem dX7_init_114 : decode cX7_init 114 = .ok (.istore_n 1, 1) := by decide +kernel
theorem dX7_init_115 : decode cX7_init 115 = .ok (.iload_n 1, 1) := by decide +kernel
theorem dX7_init_116 : decode cX7_init 116 = .ok (.sipush 128, 3) := by decide +kernel
theorem dX7_init_119 : decode cX7_init 119 = .ok (.if_icmp .ge 55, 3) := by decide +kernel
theorem dX7_init_174 : decode cX7_init 174 = .ok (.return_, 1) := by decide +kernel
theorem dX7_init_122 : decode cX7_init 122 = .ok (.iconst 0, 1) := by decide +kernel
theorem dX7_init_123 : decode cX7_init 123 = .ok (.istore_n 2, 1) := by decide +kernel
theorem dX7_init_124 : decode cX7_init 124 = .ok (.iload_n 2, 1) := by decide +kernel
theorem dX7_init_125 : decode cX7_init 125 = .ok (.sipush 128, 3) := by decide +kernel
theorem dX7_init_128 : decode cX7_init 128 = .ok (.if_icmp .ge 40, 3) := by decide +kernel
theorem dX7_init_168 : decode cX7_init 168 = .ok (.iinc 1 1, 3) := by decide +kernel
theorem dX7_init_171 : decode cX7_init 171 = .ok (.goto (-56), 3) := by decide +kernel
theorem dX7_init_131 : decode cX7_init 131 = .ok (.iload_n 1, 1) := by decide +kernel
theorem dX7_init_132 : decode cX7_init 132 = .ok (.iload_n 2, 1) := by decide +kernel
theorem dX7_init_133 : decode cX7_init 133 = .ok (.iand, 1) := by decide +kernel
theorem dX7_init_134 : decode cX7_init 134 = .ok (.ifCond .ne 28, 3) := by decide +kernel
theorem dX7_init_162 : decode cX7_init 162 = .ok (.iinc 2 1, 3) := by decide +kernel
theorem dX7_init_165 : decode cX7_init 165 = .ok (.goto (-41), 3) := by decide +kernel
theorem dX7_init_137 : decode cX7_init 137 = .ok (.aload_n 0, 1) := by decide +kernel
theorem dX7_init_138 : decode cX7_init 138 = .ok (.getfield 25, 3) := by decide +kernel
theorem dX7_init_141 : decode cX7_init 141 = .ok (.iconst 2, 1) := by decide +kernel
theorem dX7_init_142 : decode cX7_init 142 = .ok (.aload_n 0, 1) := by decide +kernel
theorem dX7_init_143 : decode cX7_init 143 = .ok (.getfield 22, 3) := by decide +kernel
theorem dX7_init_146 : decode cX7_init 146 = .ok (.iload_n 1, 1) := by decide +kernel
theorem dX7_init_147 : decode cX7_init 147 = .ok (.iaload, 1) := by decide +kernel
theorem dX7_init_148 : decode cX7_init 148 = .ok (.imul, 1) := by decide +kernel
theorem dX7_init_149 : decode cX7_init 149 = .ok (.aload_n 0, 1) := by decide +kernel
theorem dX7_init_150 : decode cX7_init 150 = .ok (.getfield 22, 3) := by decide +kernel
theorem dX7_init_153 : decode cX7_init 153 = .ok (.iload_n 2, 1) := by decide +kernel
theorem dX7_init_154 : decode cX7_init 154 = .ok (.iaload, 1) := by decide +kernel
theorem dX7_init_155 : decode cX7_init 155 = .ok (.iadd, 1) := by decide +kernel
theorem dX7_init_156 : decode cX7_init 156 = .ok (.iload_n 1, 1) := by decide +kernel
theorem dX7_init_157 : decode cX7_init 157 = .ok (.iload_n 2, 1) := by decide +kernel
theorem m_110 : (Cond.methodLink "NoonValley$Spreading" 40 yX7_state) ∈ BW := bw (tb1 110 (by decide +kernel)) (by decide +kernel)
theorem m_4 : (Cond.initialized "NoonValley$Spreading") ∈ BW := bw (tb1 4 (by decide +kernel)) (by decide +kernel)
theorem m_111 : (Cond.static yX7_state) ∈ BW := bw (tb1 111 (by decide +kernel)) (by decide +kernel)
theorem vX7_40 : LST RX7 40 yX7_state cX7_state 2 (some .int) 2 := ⟨m_110, m_111, m_4, m_112, by decide, by decide, by decide +kernel⟩
theorem dX7_init_158 : decode cX7_init 158 = .ok (.invokestatic 40, 3) := by decide +kernel
theorem dX7_init_161 : decode cX7_init 161 = .ok (.iastore, 1) := by decide +kernel
theorem dX7_init_87 : decode cX7_init 87 = .ok (.aload_n 0, 1) := by decide +kernel
theorem dX7_init_88 : decode cX7_init 88 = .ok (.getfield 22, 3) := by decide +kernel
theorem dX7_init_91 : decode cX7_init 91 = .ok (.iload_n 1, 1) := by decide +kernel
theorem dX7_init_92 : decode cX7_init 92 = .ok (.iload_n 1, 1) := by decide +kernel
theorem dX7_init_93 : decode cX7_init 93 = .ok (.iconst 2, 1) := by decide +kernel
theorem dX7_init_94 : decode cX7_init 94 = .ok (.irem, 1) := by decide +kernel
theorem dX7_init_95 : decode cX7_init 95 = .ok (.iconst 3, 1) := by decide +kernel
theorem dX7_init_96 : decode cX7_init 96 = .ok (.aload_n 0, 1) := by decide +kernel
theorem dX7_init_97 : decode cX7_init 97 = .ok (.getfield 22, 3) := by decide +kernel
theorem dX7_init_100 : decode cX7_init 100 = .ok (.iload_n 1, 1) := by decide +kernel
theorem dX7_init_101 : decode cX7_init 101 = .ok (.iconst 2, 1) := by decide +kernel
theorem dX7_init_102 : decode cX7_init 102 = .ok (.idiv, 1) := by decide +kernel
theorem dX7_init_103 : decode cX7_init 103 = .ok (.iaload, 1) := by decide +kernel
theorem dX7_init_104 : decode cX7_init 104 = .ok (.imul, 1) := by decide +kernel
theorem dX7_init_105 : decode cX7_init 105 = .ok (.iadd, 1) := by decide +kernel
theorem dX7_init_106 : decode cX7_init 106 = .ok (.iastore, 1) := by decide +kernel
theorem dX7_init_107 : decode cX7_init 107 = .ok (.iinc 1 1, 3) := by decide +kernel
theorem dX7_init_110 : decode cX7_init 110 = .ok (.goto (-30), 3) := by decide +kernel
theorem m_26 : (Cond.code yX11_init prog_1_method_1_code 1 (Option.none : Option Jvm.ClassFile.FieldType)) ∈ BW := bw (tb1 26 (by decide +kernel)) (by decide +kernel)
theorem dX11_init_0 : decode cX11_init 0 = .ok (.aload_n 0, 1) := by decide +kernel
theorem m_27 : (Cond.methodLink "NoonValley" 1 objectInit) ∈ BW := bw (tb1 27 (by decide +kernel)) (by decide +kernel)
theorem dX11_init_1 : decode cX11_init 1 = .ok (.invokespecial 1, 3) := by decide +kernel
theorem dX11_init_4 : decode cX11_init 4 = .ok (.aload_n 0, 1) := by decide +kernel
theorem m_30 : (Cond.classLink "NoonValley" 7 "NoonValley$Tape") ∈ BW := bw (tb1 30 (by decide +kernel)) (by decide +kernel)
theorem m_31 : (Cond.instantiable "NoonValley$Tape" 3) ∈ BW := bw (tb1 31 (by decide +kernel)) (by decide +kernel)
theorem m_2 : (Cond.initialized "NoonValley$Tape") ∈ BW := bw (tb1 2 (by decide +kernel)) (by decide +kernel)
theorem dX11_init_5 : decode cX11_init 5 = .ok (.new 7, 3) := by decide +kernel
theorem dX11_init_8 : decode cX11_init 8 = .ok (.dup, 1) := by decide +kernel
theorem m_32 : (Cond.methodLinkNest "NoonValley" 9 yX8_init "NoonValley") ∈ NWS := nw (tb1 32 (by decide +kernel)) (by decide +kernel)
theorem m_33 : (Cond.instanceMethod yX8_init) ∈ BW := bw (tb1 33 (by decide +kernel)) (by decide +kernel)
theorem vX11_9 : LIN RX11 9 "NoonValley" yX8_init cX8_init 1 0 := ⟨m_32, m_33, m_2, m_34, rfl, by decide, by decide, by decide +kernel⟩
theorem dX11_init_9 : decode cX11_init 9 = .ok (.invokespecial 9, 3) := by decide +kernel
theorem m_367 : (Cond.laysFinal "NoonValley" "NoonValley" "tape" "LNoonValley$Tape;") ∈ BW := bw (tb2 127 (by decide +kernel)) (by decide +kernel)
theorem m_369 : (Cond.laysFinal "NoonValley" "NoonValley" "valleys" "[LNoonValley$Valley;") ∈ BW := bw (tb2 129 (by decide +kernel)) (by decide +kernel)
theorem m_371 : (Cond.laysFinal "NoonValley" "NoonValley" "plans" "[LNoonValley$Plan;") ∈ BW := bw (tb2 131 (by decide +kernel)) (by decide +kernel)
theorem m_373 : (Cond.laysFinal "NoonValley" "NoonValley" "carrying" "LNoonValley$Carrying;") ∈ BW := bw (tb2 133 (by decide +kernel)) (by decide +kernel)
theorem m_375 : (Cond.laysFinal "NoonValley" "NoonValley" "spreading" "LNoonValley$Spreading;") ∈ BW := bw (tb2 135 (by decide +kernel)) (by decide +kernel)
theorem m_377 : (Cond.laysFinal "NoonValley" "NoonValley" "shutting" "LNoonValley$Shutting;") ∈ BW := bw (tb2 137 (by decide +kernel)) (by decide +kernel)
theorem m_379 : (Cond.laysFinal "NoonValley" "NoonValley" "gossip" "LNoonValley$Gossip;") ∈ BW := bw (tb2 139 (by decide +kernel)) (by decide +kernel)
theorem m_381 : (Cond.laysFinal "NoonValley" "NoonValley" "trade" "LNoonValley$Trade;") ∈ BW := bw (tb2 141 (by decide +kernel)) (by decide +kernel)
theorem m_383 : (Cond.laysFinal "NoonValley" "NoonValley" "cards" "LNoonValley$Cards;") ∈ BW := bw (tb2 143 (by decide +kernel)) (by decide +kernel)
theorem m_385 : (Cond.laysFinal "NoonValley" "NoonValley" "chance" "LNoonValley$Chance;") ∈ BW := bw (tb2 145 (by decide +kernel)) (by decide +kernel)
theorem m_387 : (Cond.lays "NoonValley" "NoonValley" "spare" "LNoonValley$Valley;") ∈ BW := bw (tb2 147 (by decide +kernel)) (by decide +kernel)
theorem m_389 : (Cond.lays "NoonValley" "NoonValley" "valleyCount" "I") ∈ BW := bw (tb2 149 (by decide +kernel)) (by decide +kernel)
theorem m_391 : (Cond.lays "NoonValley" "NoonValley" "planCount" "I") ∈ BW := bw (tb2 151 (by decide +kernel)) (by decide +kernel)
theorem m_393 : (Cond.lays "NoonValley" "NoonValley" "callCount" "I") ∈ BW := bw (tb2 153 (by decide +kernel)) (by decide +kernel)
theorem ciX11 : CI 11 RX11 TX11 14 tyX11 := ⟨rfl, fun w hw => by
  obtain ⟨k, hk, rfl⟩ := List.mem_map.mp hw
  have hk := List.mem_range.mp hk
  match k, hk with
  | 0, _ => exact m_367
  | 1, _ => exact m_369
  | 2, _ => exact m_371
  | 3, _ => exact m_373
  | 4, _ => exact m_375
  | 5, _ => exact m_377
  | 6, _ => exact m_379
  | 7, _ => exact m_381
  | 8, _ => exact m_383
  | 9, _ => exact m_385
  | 10, _ => exact m_387
  | 11, _ => exact m_389
  | 12, _ => exact m_391
  | 13, _ => exact m_393
  | k + 14, h => exact absurd h (by omega), tyX11_ok, nmX11⟩
theorem m_353 : (Cond.fieldLink "NoonValley" 10 "NoonValley" "tape" "LNoonValley$Tape;") ∈ BW := bw (tb2 113 (by decide +kernel)) (by decide +kernel)
theorem dX11_init_12 : decode cX11_init 12 = .ok (.putfield 10, 3) := by decide +kernel
theorem dX11_init_15 : decode cX11_init 15 = .ok (.aload_n 0, 1) := by decide +kernel
theorem dX11_init_16 : decode cX11_init 16 = .ok (.bipush 10, 2) := by decide +kernel
theorem m_48 : (Cond.classLink "NoonValley" 16 "NoonValley$Valley") ∈ BW := bw (tb1 48 (by decide +kernel)) (by decide +kernel)
theorem dX11_init_18 : decode cX11_init 18 = .ok (.anewarray 16, 3) := by decide +kernel
theorem m_354 : (Cond.fieldLink "NoonValley" 18 "NoonValley" "valleys" "[LNoonValley$Valley;") ∈ BW := bw (tb2 114 (by decide +kernel)) (by decide +kernel)
theorem dX11_init_21 : decode cX11_init 21 = .ok (.putfield 18, 3) := by decide +kernel
theorem dX11_init_24 : decode cX11_init 24 = .ok (.aload_n 0, 1) := by decide +kernel
theorem dX11_init_25 : decode cX11_init 25 = .ok (.bipush 12, 2) := by decide +kernel
theorem m_50 : (Cond.classLink "NoonValley" 22 "NoonValley$Plan") ∈ BW := bw (tb1 50 (by decide +kernel)) (by decide +kernel)
theorem dX11_init_27 : decode cX11_init 27 = .ok (.anewarray 22, 3) := by decide +kernel
theorem m_355 : (Cond.fieldLink "NoonValley" 24 "NoonValley" "plans" "[LNoonValley$Plan;") ∈ BW := bw (tb2 115 (by decide +kernel)) (by decide +kernel)
theorem dX11_init_30 : decode cX11_init 30 = .ok (.putfield 24, 3) := by decide +kernel
theorem dX11_init_33 : decode cX11_init 33 = .ok (.aload_n 0, 1) := by decide +kernel
theorem m_52 : (Cond.classLink "NoonValley" 28 "NoonValley$Carrying") ∈ BW := bw (tb1 52 (by decide +kernel)) (by decide +kernel)
theorem m_53 : (Cond.instantiable "NoonValley$Carrying" 5) ∈ BW := bw (tb1 53 (by decide +kernel)) (by decide +kernel)
theorem m_3 : (Cond.initialized "NoonValley$Carrying") ∈ BW := bw (tb1 3 (by decide +kernel)) (by decide +kernel)
theorem dX11_init_34 : decode cX11_init 34 = .ok (.new 28, 3) := by decide +kernel
theorem dX11_init_37 : decode cX11_init 37 = .ok (.dup, 1) := by decide +kernel
theorem m_54 : (Cond.methodLinkNest "NoonValley" 30 yX1_init "NoonValley") ∈ NWS := nw (tb1 54 (by decide +kernel)) (by decide +kernel)
theorem m_55 : (Cond.instanceMethod yX1_init) ∈ BW := bw (tb1 55 (by decide +kernel)) (by decide +kernel)
theorem vX11_30 : LIN RX11 30 "NoonValley" yX1_init cX1_init 1 0 := ⟨m_54, m_55, m_3, m_56, rfl, by decide, by decide, by decide +kernel⟩
theorem dX11_init_38 : decode cX11_init 38 = .ok (.invokespecial 30, 3) := by decide +kernel
theorem m_356 : (Cond.fieldLink "NoonValley" 31 "NoonValley" "carrying" "LNoonValley$Carrying;") ∈ BW := bw (tb2 116 (by decide +kernel)) (by decide +kernel)
theorem dX11_init_41 : decode cX11_init 41 = .ok (.putfield 31, 3) := by decide +kernel
theorem dX11_init_44 : decode cX11_init 44 = .ok (.aload_n 0, 1) := by decide +kernel
theorem m_75 : (Cond.classLink "NoonValley" 35 "NoonValley$Spreading") ∈ BW := bw (tb1 75 (by decide +kernel)) (by decide +kernel)
theorem m_76 : (Cond.instantiable "NoonValley$Spreading" 17) ∈ BW := bw (tb1 76 (by decide +kernel)) (by decide +kernel)
theorem dX11_init_45 : decode cX11_init 45 = .ok (.new 35, 3) := by decide +kernel
theorem dX11_init_48 : decode cX11_init 48 = .ok (.dup, 1) := by decide +kernel
theorem m_77 : (Cond.methodLink "NoonValley" 37 yX7_init) ∈ BW := bw (tb1 77 (by decide +kernel)) (by decide +kernel)
theorem m_78 : (Cond.instanceMethod yX7_init) ∈ BW := bw (tb1 78 (by decide +kernel)) (by decide +kernel)
theorem vX11_37 : LI RX11 37 yX7_init cX7_init 3 0 := ⟨m_77, m_78, m_4, m_79, rfl, by decide, by decide, by decide +kernel⟩
theorem dX11_init_49 : decode cX11_init 49 = .ok (.invokespecial 37, 3) := by decide +kernel
theorem m_357 : (Cond.fieldLink "NoonValley" 38 "NoonValley" "spreading" "LNoonValley$Spreading;") ∈ BW := bw (tb2 117 (by decide +kernel)) (by decide +kernel)
theorem dX11_init_52 : decode cX11_init 52 = .ok (.putfield 38, 3) := by decide +kernel
theorem dX11_init_55 : decode cX11_init 55 = .ok (.aload_n 0, 1) := by decide +kernel
theorem m_179 : (Cond.lays "NoonValley$Shutting" "NoonValley$Shutting" "valley" "LNoonValley$Valley;") ∈ BW := bw (tb1 179 (by decide +kernel)) (by decide +kernel)
theorem m_181 : (Cond.lays "NoonValley$Shutting" "NoonValley$Shutting" "goal" "I") ∈ BW := bw (tb1 181 (by decide +kernel)) (by decide +kernel)
theorem m_183 : (Cond.lays "NoonValley$Shutting" "NoonValley$Shutting" "hour" "I") ∈ BW := bw (tb1 183 (by decide +kernel)) (by decide +kernel)
theorem m_185 : (Cond.lays "NoonValley$Shutting" "NoonValley$Shutting" "before" "I") ∈ BW := bw (tb1 185 (by decide +kernel)) (by decide +kernel)
theorem m_187 : (Cond.lays "NoonValley$Shutting" "NoonValley$Shutting" "used" "I") ∈ BW := bw (tb1 187 (by decide +kernel)) (by decide +kernel)
theorem ciX6 : CI 6 RX6 TX6 5 tyX6 := ⟨rfl, fun w hw => by
  obtain ⟨k, hk, rfl⟩ := List.mem_map.mp hw
  have hk := List.mem_range.mp hk
  match k, hk with
  | 0, _ => exact m_179
  | 1, _ => exact m_181
  | 2, _ => exact m_183
  | 3, _ => exact m_185
  | 4, _ => exact m_187
  | k + 5, h => exact absurd h (by omega), tyX6_ok, nmX6⟩
theorem m_168 : (Cond.classLink "NoonValley" 42 "NoonValley$Shutting") ∈ BW := bw (tb1 168 (by decide +kernel)) (by decide +kernel)
theorem m_169 : (Cond.instantiable "NoonValley$Shutting" 5) ∈ BW := bw (tb1 169 (by decide +kernel)) (by decide +kernel)
theorem m_6 : (Cond.initialized "NoonValley$Shutting") ∈ BW := bw (tb1 6 (by decide +kernel)) (by decide +kernel)
theorem dX11_init_56 : decode cX11_init 56 = .ok (.new 42, 3) := by decide +kernel
theorem dX11_init_59 : decode cX11_init 59 = .ok (.dup, 1) := by decide +kernel
theorem m_170 : (Cond.methodLinkNest "NoonValley" 44 yX6_init "NoonValley") ∈ NWS := nw (tb1 170 (by decide +kernel)) (by decide +kernel)
theorem m_171 : (Cond.instanceMethod yX6_init) ∈ BW := bw (tb1 171 (by decide +kernel)) (by decide +kernel)
theorem vX11_44 : LIN RX11 44 "NoonValley" yX6_init cX6_init 1 0 := ⟨m_170, m_171, m_6, m_172, rfl, by decide, by decide, by decide +kernel⟩
theorem dX11_init_60 : decode cX11_init 60 = .ok (.invokespecial 44, 3) := by decide +kernel
theorem m_358 : (Cond.fieldLink "NoonValley" 45 "NoonValley" "shutting" "LNoonValley$Shutting;") ∈ BW := bw (tb2 118 (by decide +kernel)) (by decide +kernel)
theorem dX11_init_63 : decode cX11_init 63 = .ok (.putfield 45, 3) := by decide +kernel
theorem dX11_init_66 : decode cX11_init 66 = .ok (.aload_n 0, 1) := by decide +kernel
theorem m_190 : (Cond.classLink "NoonValley" 49 "NoonValley$Gossip") ∈ BW := bw (tb1 190 (by decide +kernel)) (by decide +kernel)
theorem m_191 : (Cond.instantiable "NoonValley$Gossip" 3) ∈ BW := bw (tb1 191 (by decide +kernel)) (by decide +kernel)
theorem m_7 : (Cond.initialized "NoonValley$Gossip") ∈ BW := bw (tb1 7 (by decide +kernel)) (by decide +kernel)
theorem dX11_init_67 : decode cX11_init 67 = .ok (.new 49, 3) := by decide +kernel
theorem dX11_init_70 : decode cX11_init 70 = .ok (.dup, 1) := by decide +kernel
theorem m_192 : (Cond.methodLinkNest "NoonValley" 51 yX3_init "NoonValley") ∈ NWS := nw (tb1 192 (by decide +kernel)) (by decide +kernel)
theorem m_193 : (Cond.instanceMethod yX3_init) ∈ BW := bw (tb1 193 (by decide +kernel)) (by decide +kernel)
theorem vX11_51 : LIN RX11 51 "NoonValley" yX3_init cX3_init 1 0 := ⟨m_192, m_193, m_7, m_194, rfl, by decide, by decide, by decide +kernel⟩
theorem dX11_init_71 : decode cX11_init 71 = .ok (.invokespecial 51, 3) := by decide +kernel
theorem m_359 : (Cond.fieldLink "NoonValley" 52 "NoonValley" "gossip" "LNoonValley$Gossip;") ∈ BW := bw (tb2 119 (by decide +kernel)) (by decide +kernel)
theorem dX11_init_74 : decode cX11_init 74 = .ok (.putfield 52, 3) := by decide +kernel
theorem dX11_init_77 : decode cX11_init 77 = .ok (.aload_n 0, 1) := by decide +kernel
theorem m_206 : (Cond.classLink "NoonValley" 56 "NoonValley$Trade") ∈ BW := bw (tb1 206 (by decide +kernel)) (by decide +kernel)
theorem m_207 : (Cond.instantiable "NoonValley$Trade" 3) ∈ BW := bw (tb1 207 (by decide +kernel)) (by decide +kernel)
theorem m_8 : (Cond.initialized "NoonValley$Trade") ∈ BW := bw (tb1 8 (by decide +kernel)) (by decide +kernel)
theorem dX11_init_78 : decode cX11_init 78 = .ok (.new 56, 3) := by decide +kernel
theorem dX11_init_81 : decode cX11_init 81 = .ok (.dup, 1) := by decide +kernel
theorem m_208 : (Cond.methodLinkNest "NoonValley" 58 yX9_init "NoonValley") ∈ NWS := nw (tb1 208 (by decide +kernel)) (by decide +kernel)
theorem m_209 : (Cond.instanceMethod yX9_init) ∈ BW := bw (tb1 209 (by decide +kernel)) (by decide +kernel)
theorem vX11_58 : LIN RX11 58 "NoonValley" yX9_init cX9_init 1 0 := ⟨m_208, m_209, m_8, m_210, rfl, by decide, by decide, by decide +kernel⟩
theorem dX11_init_82 : decode cX11_init 82 = .ok (.invokespecial 58, 3) := by decide +kernel
theorem m_360 : (Cond.fieldLink "NoonValley" 59 "NoonValley" "trade" "LNoonValley$Trade;") ∈ BW := bw (tb2 120 (by decide +kernel)) (by decide +kernel)
theorem dX11_init_85 : decode cX11_init 85 = .ok (.putfield 59, 3) := by decide +kernel
theorem dX11_init_88 : decode cX11_init 88 = .ok (.aload_n 0, 1) := by decide +kernel
theorem m_224 : (Cond.classLink "NoonValley" 63 "NoonValley$Cards") ∈ BW := bw (tb1 224 (by decide +kernel)) (by decide +kernel)
theorem m_225 : (Cond.instantiable "NoonValley$Cards" 7) ∈ BW := bw (tb1 225 (by decide +kernel)) (by decide +kernel)
theorem m_9 : (Cond.initialized "NoonValley$Cards") ∈ BW := bw (tb1 9 (by decide +kernel)) (by decide +kernel)
theorem dX11_init_89 : decode cX11_init 89 = .ok (.new 63, 3) := by decide +kernel
theorem dX11_init_92 : decode cX11_init 92 = .ok (.dup, 1) := by decide +kernel
theorem m_226 : (Cond.methodLinkNest "NoonValley" 65 yX0_init "NoonValley") ∈ NWS := nw (tb1 226 (by decide +kernel)) (by decide +kernel)
theorem m_227 : (Cond.instanceMethod yX0_init) ∈ BW := bw (tb1 227 (by decide +kernel)) (by decide +kernel)
theorem vX11_65 : LIN RX11 65 "NoonValley" yX0_init cX0_init 1 0 := ⟨m_226, m_227, m_9, m_228, rfl, by decide, by decide, by decide +kernel⟩
theorem dX11_init_93 : decode cX11_init 93 = .ok (.invokespecial 65, 3) := by decide +kernel
theorem m_361 : (Cond.fieldLink "NoonValley" 66 "NoonValley" "cards" "LNoonValley$Cards;") ∈ BW := bw (tb2 121 (by decide +kernel)) (by decide +kernel)
theorem dX11_init_96 : decode cX11_init 96 = .ok (.putfield 66, 3) := by decide +kernel
theorem dX11_init_99 : decode cX11_init 99 = .ok (.aload_n 0, 1) := by decide +kernel
theorem m_253 : (Cond.classLink "NoonValley" 70 "NoonValley$Chance") ∈ BW := bw (tb2 13 (by decide +kernel)) (by decide +kernel)
theorem m_254 : (Cond.instantiable "NoonValley$Chance" 2) ∈ BW := bw (tb2 14 (by decide +kernel)) (by decide +kernel)
theorem m_10 : (Cond.initialized "NoonValley$Chance") ∈ BW := bw (tb1 10 (by decide +kernel)) (by decide +kernel)
theorem dX11_init_100 : decode cX11_init 100 = .ok (.new 70, 3) := by decide +kernel
theorem dX11_init_103 : decode cX11_init 103 = .ok (.dup, 1) := by decide +kernel
theorem m_255 : (Cond.methodLinkNest "NoonValley" 72 yX2_init "NoonValley") ∈ NWS := nw (tb2 15 (by decide +kernel)) (by decide +kernel)
theorem m_256 : (Cond.instanceMethod yX2_init) ∈ BW := bw (tb2 16 (by decide +kernel)) (by decide +kernel)
theorem vX11_72 : LIN RX11 72 "NoonValley" yX2_init cX2_init 1 0 := ⟨m_255, m_256, m_10, m_257, rfl, by decide, by decide, by decide +kernel⟩
theorem dX11_init_104 : decode cX11_init 104 = .ok (.invokespecial 72, 3) := by decide +kernel
theorem m_362 : (Cond.fieldLink "NoonValley" 73 "NoonValley" "chance" "LNoonValley$Chance;") ∈ BW := bw (tb2 122 (by decide +kernel)) (by decide +kernel)
theorem dX11_init_107 : decode cX11_init 107 = .ok (.putfield 73, 3) := by decide +kernel
theorem dX11_init_110 : decode cX11_init 110 = .ok (.aload_n 0, 1) := by decide +kernel
theorem m_267 : (Cond.instantiable "NoonValley$Valley" 16) ∈ BW := bw (tb2 27 (by decide +kernel)) (by decide +kernel)
theorem m_11 : (Cond.initialized "NoonValley$Valley") ∈ BW := bw (tb1 11 (by decide +kernel)) (by decide +kernel)
theorem dX11_init_111 : decode cX11_init 111 = .ok (.new 16, 3) := by decide +kernel
theorem dX11_init_114 : decode cX11_init 114 = .ok (.dup, 1) := by decide +kernel
theorem m_268 : (Cond.methodLinkNest "NoonValley" 77 yX10_init "NoonValley") ∈ NWS := nw (tb2 28 (by decide +kernel)) (by decide +kernel)
theorem m_269 : (Cond.instanceMethod yX10_init) ∈ BW := bw (tb2 29 (by decide +kernel)) (by decide +kernel)
theorem vX11_77 : LIN RX11 77 "NoonValley" yX10_init cX10_init 1 0 := ⟨m_268, m_269, m_11, m_270, rfl, by decide, by decide, by decide +kernel⟩
theorem dX11_init_115 : decode cX11_init 115 = .ok (.invokespecial 77, 3) := by decide +kernel
theorem m_363 : (Cond.fieldLink "NoonValley" 78 "NoonValley" "spare" "LNoonValley$Valley;") ∈ BW := bw (tb2 123 (by decide +kernel)) (by decide +kernel)
theorem dX11_init_118 : decode cX11_init 118 = .ok (.putfield 78, 3) := by decide +kernel
theorem dX11_init_121 : decode cX11_init 121 = .ok (.return_, 1) := by decide +kernel
theorem m_1227 : (Cond.code yX12_init prog_14_method_1_code 1 (Option.none : Option Jvm.ClassFile.FieldType)) ∈ BW := bw (tb6 27 (by decide +kernel)) (by decide +kernel)
theorem dX12_init_0 : decode cX12_init 0 = .ok (.aload_n 0, 1) := by decide +kernel
theorem m_1228 : (Cond.methodLink "NoonValleyModel" 3 objectInit) ∈ BW := bw (tb6 28 (by decide +kernel)) (by decide +kernel)
theorem dX12_init_1 : decode cX12_init 1 = .ok (.invokespecial 3, 3) := by decide +kernel
theorem dX12_init_4 : decode cX12_init 4 = .ok (.aload_n 0, 1) := by decide +kernel
theorem dX12_init_5 : decode cX12_init 5 = .ok (.sipush 400, 3) := by decide +kernel
theorem m_1420 : (Cond.arrayClass FieldType.byte) ∈ BW := bw (tb6 220 (by decide +kernel)) (by decide +kernel)
theorem dX12_init_8 : decode cX12_init 8 = .ok (.newarray .byte, 2) := by decide +kernel
theorem m_1291 : (Cond.lays "NoonValleyModel" "NoonValleyModel" "thrown" "I") ∈ BW := bw (tb6 91 (by decide +kernel)) (by decide +kernel)
theorem m_1293 : (Cond.laysFinal "NoonValleyModel" "NoonValleyModel" "tape" "[B") ∈ BW := bw (tb6 93 (by decide +kernel)) (by decide +kernel)
theorem m_1295 : (Cond.lays "NoonValleyModel" "NoonValleyModel" "length" "I") ∈ BW := bw (tb6 95 (by decide +kernel)) (by decide +kernel)
theorem m_1297 : (Cond.lays "NoonValleyModel" "NoonValleyModel" "at" "I") ∈ BW := bw (tb6 97 (by decide +kernel)) (by decide +kernel)
theorem m_1299 : (Cond.lays "NoonValleyModel" "NoonValleyModel" "fault" "I") ∈ BW := bw (tb6 99 (by decide +kernel)) (by decide +kernel)
theorem m_1301 : (Cond.lays "NoonValleyModel" "NoonValleyModel" "number" "I") ∈ BW := bw (tb6 101 (by decide +kernel)) (by decide +kernel)
theorem m_1303 : (Cond.laysFinal "NoonValleyModel" "NoonValleyModel" "people" "[I") ∈ BW := bw (tb6 103 (by decide +kernel)) (by decide +kernel)
theorem m_1305 : (Cond.laysFinal "NoonValleyModel" "NoonValleyModel" "lines" "[I") ∈ BW := bw (tb6 105 (by decide +kernel)) (by decide +kernel)
theorem m_1307 : (Cond.laysFinal "NoonValleyModel" "NoonValleyModel" "deaf" "[I") ∈ BW := bw (tb6 107 (by decide +kernel)) (by decide +kernel)
theorem m_1309 : (Cond.laysFinal "NoonValleyModel" "NoonValleyModel" "knows" "[I") ∈ BW := bw (tb6 109 (by decide +kernel)) (by decide +kernel)
theorem m_1311 : (Cond.laysFinal "NoonValleyModel" "NoonValleyModel" "musts" "[I") ∈ BW := bw (tb6 111 (by decide +kernel)) (by decide +kernel)
theorem m_1313 : (Cond.laysFinal "NoonValleyModel" "NoonValleyModel" "mustNots" "[I") ∈ BW := bw (tb6 113 (by decide +kernel)) (by decide +kernel)
theorem m_1315 : (Cond.laysFinal "NoonValleyModel" "NoonValleyModel" "lineA" "[I") ∈ BW := bw (tb6 115 (by decide +kernel)) (by decide +kernel)
theorem m_1317 : (Cond.laysFinal "NoonValleyModel" "NoonValleyModel" "lineB" "[I") ∈ BW := bw (tb6 117 (by decide +kernel)) (by decide +kernel)
theorem m_1319 : (Cond.laysFinal "NoonValleyModel" "NoonValleyModel" "lineF" "[I") ∈ BW := bw (tb6 119 (by decide +kernel)) (by decide +kernel)
theorem m_1321 : (Cond.laysFinal "NoonValleyModel" "NoonValleyModel" "lineT" "[I") ∈ BW := bw (tb6 121 (by decide +kernel)) (by decide +kernel)
theorem m_1323 : (Cond.laysFinal "NoonValleyModel" "NoonValleyModel" "lineDown" "[I") ∈ BW := bw (tb6 123 (by decide +kernel)) (by decide +kernel)
theorem m_1325 : (Cond.laysFinal "NoonValleyModel" "NoonValleyModel" "isOne" "[Z") ∈ BW := bw (tb6 125 (by decide +kernel)) (by decide +kernel)
theorem m_1327 : (Cond.lays "NoonValleyModel" "NoonValleyModel" "valleys" "I") ∈ BW := bw (tb6 127 (by decide +kernel)) (by decide +kernel)
theorem m_1329 : (Cond.lays "NoonValleyModel" "NoonValleyModel" "moreA" "I") ∈ BW := bw (tb6 129 (by decide +kernel)) (by decide +kernel)
theorem m_1331 : (Cond.lays "NoonValleyModel" "NoonValleyModel" "moreB" "I") ∈ BW := bw (tb6 131 (by decide +kernel)) (by decide +kernel)
theorem m_1333 : (Cond.laysFinal "NoonValleyModel" "NoonValleyModel" "planOf" "[I") ∈ BW := bw (tb6 133 (by decide +kernel)) (by decide +kernel)
theorem m_1335 : (Cond.laysFinal "NoonValleyModel" "NoonValleyModel" "calls" "[I") ∈ BW := bw (tb6 135 (by decide +kernel)) (by decide +kernel)
theorem m_1337 : (Cond.laysFinal "NoonValleyModel" "NoonValleyModel" "callHour" "[I") ∈ BW := bw (tb6 137 (by decide +kernel)) (by decide +kernel)
theorem m_1339 : (Cond.laysFinal "NoonValleyModel" "NoonValleyModel" "callKind" "[I") ∈ BW := bw (tb6 139 (by decide +kernel)) (by decide +kernel)
theorem m_1341 : (Cond.laysFinal "NoonValleyModel" "NoonValleyModel" "callOne" "[I") ∈ BW := bw (tb6 141 (by decide +kernel)) (by decide +kernel)
theorem m_1343 : (Cond.laysFinal "NoonValleyModel" "NoonValleyModel" "callOther" "[I") ∈ BW := bw (tb6 143 (by decide +kernel)) (by decide +kernel)
theorem m_1345 : (Cond.lays "NoonValleyModel" "NoonValleyModel" "plans" "I") ∈ BW := bw (tb6 145 (by decide +kernel)) (by decide +kernel)
theorem m_1347 : (Cond.laysFinal "NoonValleyModel" "NoonValleyModel" "law" "[I") ∈ BW := bw (tb6 147 (by decide +kernel)) (by decide +kernel)
theorem m_1349 : (Cond.laysFinal "NoonValleyModel" "NoonValleyModel" "reached" "[I") ∈ BW := bw (tb6 149 (by decide +kernel)) (by decide +kernel)
theorem m_1351 : (Cond.laysFinal "NoonValleyModel" "NoonValleyModel" "after" "[I") ∈ BW := bw (tb6 151 (by decide +kernel)) (by decide +kernel)
theorem m_1353 : (Cond.laysFinal "NoonValleyModel" "NoonValleyModel" "once" "[I") ∈ BW := bw (tb6 153 (by decide +kernel)) (by decide +kernel)
theorem m_1355 : (Cond.laysFinal "NoonValleyModel" "NoonValleyModel" "fresh" "[I") ∈ BW := bw (tb6 155 (by decide +kernel)) (by decide +kernel)
theorem m_1357 : (Cond.laysFinal "NoonValleyModel" "NoonValleyModel" "twice" "[I") ∈ BW := bw (tb6 157 (by decide +kernel)) (by decide +kernel)
theorem m_1359 : (Cond.laysFinal "NoonValleyModel" "NoonValleyModel" "need" "[B") ∈ BW := bw (tb6 159 (by decide +kernel)) (by decide +kernel)
theorem m_1361 : (Cond.laysFinal "NoonValleyModel" "NoonValleyModel" "row" "[I") ∈ BW := bw (tb6 161 (by decide +kernel)) (by decide +kernel)
theorem m_1363 : (Cond.laysFinal "NoonValleyModel" "NoonValleyModel" "lowRow" "[I") ∈ BW := bw (tb6 163 (by decide +kernel)) (by decide +kernel)
theorem m_1365 : (Cond.lays "NoonValleyModel" "NoonValleyModel" "askValley" "I") ∈ BW := bw (tb6 165 (by decide +kernel)) (by decide +kernel)
theorem m_1367 : (Cond.lays "NoonValleyModel" "NoonValleyModel" "askMust" "I") ∈ BW := bw (tb6 167 (by decide +kernel)) (by decide +kernel)
theorem m_1369 : (Cond.lays "NoonValleyModel" "NoonValleyModel" "askNot" "I") ∈ BW := bw (tb6 169 (by decide +kernel)) (by decide +kernel)
theorem m_1371 : (Cond.lays "NoonValleyModel" "NoonValleyModel" "bestNeed" "I") ∈ BW := bw (tb6 171 (by decide +kernel)) (by decide +kernel)
theorem m_1373 : (Cond.lays "NoonValleyModel" "NoonValleyModel" "askHour" "I") ∈ BW := bw (tb6 173 (by decide +kernel)) (by decide +kernel)
theorem m_1375 : (Cond.lays "NoonValleyModel" "NoonValleyModel" "askWanted" "I") ∈ BW := bw (tb6 175 (by decide +kernel)) (by decide +kernel)
theorem m_1377 : (Cond.lays "NoonValleyModel" "NoonValleyModel" "findsRow" "Z") ∈ BW := bw (tb6 177 (by decide +kernel)) (by decide +kernel)
theorem m_1379 : (Cond.lays "NoonValleyModel" "NoonValleyModel" "nextKnow" "I") ∈ BW := bw (tb6 179 (by decide +kernel)) (by decide +kernel)
theorem m_1381 : (Cond.lays "NoonValleyModel" "NoonValleyModel" "nextOnce" "I") ∈ BW := bw (tb6 181 (by decide +kernel)) (by decide +kernel)
theorem m_1383 : (Cond.laysFinal "NoonValleyModel" "NoonValleyModel" "things" "[I") ∈ BW := bw (tb6 183 (by decide +kernel)) (by decide +kernel)
theorem m_1385 : (Cond.laysFinal "NoonValleyModel" "NoonValleyModel" "gossipRow" "[I") ∈ BW := bw (tb6 185 (by decide +kernel)) (by decide +kernel)
theorem m_1387 : (Cond.laysFinal "NoonValleyModel" "NoonValleyModel" "isLower" "[Z") ∈ BW := bw (tb6 187 (by decide +kernel)) (by decide +kernel)
theorem m_1389 : (Cond.laysFinal "NoonValleyModel" "NoonValleyModel" "cost" "[I") ∈ BW := bw (tb6 189 (by decide +kernel)) (by decide +kernel)
theorem m_1391 : (Cond.laysFinal "NoonValleyModel" "NoonValleyModel" "costNext" "[I") ∈ BW := bw (tb6 191 (by decide +kernel)) (by decide +kernel)
theorem m_1393 : (Cond.laysFinal "NoonValleyModel" "NoonValleyModel" "tradeCosts" "[I") ∈ BW := bw (tb6 193 (by decide +kernel)) (by decide +kernel)
theorem m_1395 : (Cond.laysFinal "NoonValleyModel" "NoonValleyModel" "cards" "[I") ∈ BW := bw (tb6 195 (by decide +kernel)) (by decide +kernel)
theorem m_1397 : (Cond.laysFinal "NoonValleyModel" "NoonValleyModel" "cardLong" "[I") ∈ BW := bw (tb6 197 (by decide +kernel)) (by decide +kernel)
theorem m_1399 : (Cond.laysFinal "NoonValleyModel" "NoonValleyModel" "gone" "[I") ∈ BW := bw (tb6 199 (by decide +kernel)) (by decide +kernel)
theorem m_1401 : (Cond.laysFinal "NoonValleyModel" "NoonValleyModel" "below" "[I") ∈ BW := bw (tb6 201 (by decide +kernel)) (by decide +kernel)
theorem m_1403 : (Cond.laysFinal "NoonValleyModel" "NoonValleyModel" "belowMany" "[I") ∈ BW := bw (tb6 203 (by decide +kernel)) (by decide +kernel)
theorem m_1405 : (Cond.laysFinal "NoonValleyModel" "NoonValleyModel" "time" "[I") ∈ BW := bw (tb6 205 (by decide +kernel)) (by decide +kernel)
theorem m_1407 : (Cond.laysFinal "NoonValleyModel" "NoonValleyModel" "broken" "[I") ∈ BW := bw (tb6 207 (by decide +kernel)) (by decide +kernel)
theorem m_1409 : (Cond.laysFinal "NoonValleyModel" "NoonValleyModel" "ways" "[J") ∈ BW := bw (tb6 209 (by decide +kernel)) (by decide +kernel)
theorem m_1411 : (Cond.laysFinal "NoonValleyModel" "NoonValleyModel" "waysNext" "[J") ∈ BW := bw (tb6 211 (by decide +kernel)) (by decide +kernel)
theorem m_1413 : (Cond.laysFinal "NoonValleyModel" "NoonValleyModel" "tales" "[I") ∈ BW := bw (tb6 213 (by decide +kernel)) (by decide +kernel)
theorem m_1415 : (Cond.laysFinal "NoonValleyModel" "NoonValleyModel" "can" "[Z") ∈ BW := bw (tb6 215 (by decide +kernel)) (by decide +kernel)
theorem m_1417 : (Cond.laysFinal "NoonValleyModel" "NoonValleyModel" "canNext" "[Z") ∈ BW := bw (tb6 217 (by decide +kernel)) (by decide +kernel)
theorem ciX12 : CI 12 RX12 TX12 64 tyX12 := ⟨rfl, fun w hw => by
  obtain ⟨k, hk, rfl⟩ := List.mem_map.mp hw
  have hk := List.mem_range.mp hk
  match k, hk with
  | 0, _ => exact m_1291
  | 1, _ => exact m_1293
  | 2, _ => exact m_1295
  | 3, _ => exact m_1297
  | 4, _ => exact m_1299
  | 5, _ => exact m_1301
  | 6, _ => exact m_1303
  | 7, _ => exact m_1305
  | 8, _ => exact m_1307
  | 9, _ => exact m_1309
  | 10, _ => exact m_1311
  | 11, _ => exact m_1313
  | 12, _ => exact m_1315
  | 13, _ => exact m_1317
  | 14, _ => exact m_1319
  | 15, _ => exact m_1321
  | 16, _ => exact m_1323
  | 17, _ => exact m_1325
  | 18, _ => exact m_1327
  | 19, _ => exact m_1329
  | 20, _ => exact m_1331
  | 21, _ => exact m_1333
  | 22, _ => exact m_1335
  | 23, _ => exact m_1337
  | 24, _ => exact m_1339
  | 25, _ => exact m_1341
  | 26, _ => exact m_1343
  | 27, _ => exact m_1345
  | 28, _ => exact m_1347
  | 29, _ => exact m_1349
  | 30, _ => exact m_1351
  | 31, _ => exact m_1353
  | 32, _ => exact m_1355
  | 33, _ => exact m_1357
  | 34, _ => exact m_1359
  | 35, _ => exact m_1361
  | 36, _ => exact m_1363
  | 37, _ => exact m_1365
  | 38, _ => exact m_1367
  | 39, _ => exact m_1369
  | 40, _ => exact m_1371
  | 41, _ => exact m_1373
  | 42, _ => exact m_1375
  | 43, _ => exact m_1377
  | 44, _ => exact m_1379
  | 45, _ => exact m_1381
  | 46, _ => exact m_1383
  | 47, _ => exact m_1385
  | 48, _ => exact m_1387
  | 49, _ => exact m_1389
  | 50, _ => exact m_1391
  | 51, _ => exact m_1393
  | 52, _ => exact m_1395
  | 53, _ => exact m_1397
  | 54, _ => exact m_1399
  | 55, _ => exact m_1401
  | 56, _ => exact m_1403
  | 57, _ => exact m_1405
  | 58, _ => exact m_1407
  | 59, _ => exact m_1409
  | 60, _ => exact m_1411
  | 61, _ => exact m_1413
  | 62, _ => exact m_1415
  | 63, _ => exact m_1417
  | k + 64, h => exact absurd h (by omega), tyX12_ok, nmX12⟩
theorem m_1232 : (Cond.fieldLink "NoonValleyModel" 9 "NoonValleyModel" "tape" "[B") ∈ BW := bw (tb6 32 (by decide +kernel)) (by decide +kernel)
theorem dX12_init_10 : decode cX12_init 10 = .ok (.putfield 9, 3) := by decide +kernel
theorem dX12_init_13 : decode cX12_init 13 = .ok (.aload_n 0, 1) := by decide +kernel
theorem dX12_init_14 : decode cX12_init 14 = .ok (.bipush 11, 2) := by decide +kernel
theorem dX12_init_16 : decode cX12_init 16 = .ok (.newarray .int, 2) := by decide +kernel
theorem m_1237 : (Cond.fieldLink "NoonValleyModel" 13 "NoonValleyModel" "people" "[I") ∈ BW := bw (tb6 37 (by decide +kernel)) (by decide +kernel)
theorem dX12_init_18 : decode cX12_init 18 = .ok (.putfield 13, 3) := by decide +kernel
theorem dX12_init_21 : decode cX12_init 21 = .ok (.aload_n 0, 1) := by decide +kernel
theorem dX12_init_22 : decode cX12_init 22 = .ok (.bipush 11, 2) := by decide +kernel
theorem dX12_init_24 : decode cX12_init 24 = .ok (.newarray .int, 2) := by decide +kernel
theorem m_1238 : (Cond.fieldLink "NoonValleyModel" 17 "NoonValleyModel" "lines" "[I") ∈ BW := bw (tb6 38 (by decide +kernel)) (by decide +kernel)
theorem dX12_init_26 : decode cX12_init 26 = .ok (.putfield 17, 3) := by decide +kernel
theorem dX12_init_29 : decode cX12_init 29 = .ok (.aload_n 0, 1) := by decide +kernel
theorem dX12_init_30 : decode cX12_init 30 = .ok (.bipush 11, 2) := by decide +kernel
theorem dX12_init_32 : decode cX12_init 32 = .ok (.newarray .int, 2) := by decide +kernel
theorem m_1239 : (Cond.fieldLink "NoonValleyModel" 20 "NoonValleyModel" "deaf" "[I") ∈ BW := bw (tb6 39 (by decide +kernel)) (by decide +kernel)
theorem dX12_init_34 : decode cX12_init 34 = .ok (.putfield 20, 3) := by decide +kernel
theorem dX12_init_37 : decode cX12_init 37 = .ok (.aload_n 0, 1) := by decide +kernel
theorem dX12_init_38 : decode cX12_init 38 = .ok (.bipush 44, 2) := by decide +kernel
theorem dX12_init_40 : decode cX12_init 40 = .ok (.newarray .int, 2) := by decide +kernel
theorem m_1240 : (Cond.fieldLink "NoonValleyModel" 23 "NoonValleyModel" "knows" "[I") ∈ BW := bw (tb6 40 (by decide +kernel)) (by decide +kernel)
theorem dX12_init_42 : decode cX12_init 42 = .ok (.putfield 23, 3) := by decide +kernel
theorem dX12_init_45 : decode cX12_init 45 = .ok (.aload_n 0, 1) := by decide +kernel
theorem dX12_init_46 : decode cX12_init 46 = .ok (.bipush 44, 2) := by decide +kernel
theorem dX12_init_48 : decode cX12_init 48 = .ok (.newarray .int, 2) := by decide +kernel
theorem m_1241 : (Cond.fieldLink "NoonValleyModel" 26 "NoonValleyModel" "musts" "[I") ∈ BW := bw (tb6 41 (by decide +kernel)) (by decide +kernel)
theorem dX12_init_50 : decode cX12_init 50 = .ok (.putfield 26, 3) := by decide +kernel
theorem dX12_init_53 : decode cX12_init 53 = .ok (.aload_n 0, 1) := by decide +kernel
theorem dX12_init_54 : decode cX12_init 54 = .ok (.bipush 44, 2) := by decide +kernel
theorem dX12_init_56 : decode cX12_init 56 = .ok (.newarray .int, 2) := by decide +kernel
theorem m_1242 : (Cond.fieldLink "NoonValleyModel" 29 "NoonValleyModel" "mustNots" "[I") ∈ BW := bw (tb6 42 (by decide +kernel)) (by decide +kernel)
theorem dX12_init_58 : decode cX12_init 58 = .ok (.putfield 29, 3) := by decide +kernel
theorem dX12_init_61 : decode cX12_init 61 = .ok (.aload_n 0, 1) := by decide +kernel
theorem dX12_init_62 : decode cX12_init 62 = .ok (.sipush 132, 3) := by decide +kernel
theorem dX12_init_65 : decode cX12_init 65 = .ok (.newarray .int, 2) := by decide +kernel
theorem m_1243 : (Cond.fieldLink "NoonValleyModel" 32 "NoonValleyModel" "lineA" "[I") ∈ BW := bw (tb6 43 (by decide +kernel)) (by decide +kernel)
theorem dX12_init_67 : decode cX12_init 67 = .ok (.putfield 32, 3) := by decide +kernel
theorem dX12_init_70 : decode cX12_init 70 = .ok (.aload_n 0, 1) := by decide +kernel
theorem dX12_init_71 : decode cX12_init 71 = .ok (.sipush 132, 3) := by decide +kernel
theorem dX12_init_74 : decode cX12_init 74 = .ok (.newarray .int, 2) := by decide +kernel
theorem m_1244 : (Cond.fieldLink "NoonValleyModel" 35 "NoonValleyModel" "lineB" "[I") ∈ BW := bw (tb6 44 (by decide +kernel)) (by decide +kernel)
theorem dX12_init_76 : decode cX12_init 76 = .ok (.putfield 35, 3) := by decide +kernel
theorem dX12_init_79 : decode cX12_init 79 = .ok (.aload_n 0, 1) := by decide +kernel
theorem dX12_init_80 : decode cX12_init 80 = .ok (.sipush 132, 3) := by decide +kernel
theorem dX12_init_83 : decode cX12_init 83 = .ok (.newarray .int, 2) := by decide +kernel
theorem m_1245 : (Cond.fieldLink "NoonValleyModel" 38 "NoonValleyModel" "lineF" "[I") ∈ BW := bw (tb6 45 (by decide +kernel)) (by decide +kernel)
theorem dX12_init_85 : decode cX12_init 85 = .ok (.putfield 38, 3) := by decide +kernel
theorem dX12_init_88 : decode cX12_init 88 = .ok (.aload_n 0, 1) := by decide +kernel
theorem dX12_init_89 : decode cX12_init 89 = .ok (.sipush 132, 3) := by decide +kernel
theorem dX12_init_92 : decode cX12_init 92 = .ok (.newarray .int, 2) := by decide +kernel
theorem m_1246 : (Cond.fieldLink "NoonValleyModel" 41 "NoonValleyModel" "lineT" "[I") ∈ BW := bw (tb6 46 (by decide +kernel)) (by decide +kernel)
theorem dX12_init_94 : decode cX12_init 94 = .ok (.putfield 41, 3) := by decide +kernel
theorem dX12_init_97 : decode cX12_init 97 = .ok (.aload_n 0, 1) := by decide +kernel
theorem dX12_init_98 : decode cX12_init 98 = .ok (.sipush 132, 3) := by decide +kernel
theorem dX12_init_101 : decode cX12_init 101 = .ok (.newarray .int, 2) := by decide +kernel
theorem m_1247 : (Cond.fieldLink "NoonValleyModel" 44 "NoonValleyModel" "lineDown" "[I") ∈ BW := bw (tb6 47 (by decide +kernel)) (by decide +kernel)
theorem dX12_init_103 : decode cX12_init 103 = .ok (.putfield 44, 3) := by decide +kernel
theorem dX12_init_106 : decode cX12_init 106 = .ok (.aload_n 0, 1) := by decide +kernel
theorem dX12_init_107 : decode cX12_init 107 = .ok (.sipush 132, 3) := by decide +kernel
theorem dX12_init_110 : decode cX12_init 110 = .ok (.newarray .boolean, 2) := by decide +kernel
theorem m_1248 : (Cond.fieldLink "NoonValleyModel" 47 "NoonValleyModel" "isOne" "[Z") ∈ BW := bw (tb6 48 (by decide +kernel)) (by decide +kernel)
theorem dX12_init_112 : decode cX12_init 112 = .ok (.putfield 47, 3) := by decide +kernel
theorem dX12_init_115 : decode cX12_init 115 = .ok (.aload_n 0, 1) := by decide +kernel
theorem dX12_init_116 : decode cX12_init 116 = .ok (.iconst (-1), 1) := by decide +kernel
theorem m_1250 : (Cond.fieldLink "NoonValleyModel" 51 "NoonValleyModel" "moreA" "I") ∈ BW := bw (tb6 50 (by decide +kernel)) (by decide +kernel)
theorem dX12_init_117 : decode cX12_init 117 = .ok (.putfield 51, 3) := by decide +kernel
theorem dX12_init_120 : decode cX12_init 120 = .ok (.aload_n 0, 1) := by decide +kernel
theorem dX12_init_121 : decode cX12_init 121 = .ok (.iconst (-1), 1) := by decide +kernel
theorem m_1251 : (Cond.fieldLink "NoonValleyModel" 55 "NoonValleyModel" "moreB" "I") ∈ BW := bw (tb6 51 (by decide +kernel)) (by decide +kernel)
theorem dX12_init_122 : decode cX12_init 122 = .ok (.putfield 55, 3) := by decide +kernel
theorem dX12_init_125 : decode cX12_init 125 = .ok (.aload_n 0, 1) := by decide +kernel
theorem dX12_init_126 : decode cX12_init 126 = .ok (.bipush 12, 2) := by decide +kernel
theorem dX12_init_128 : decode cX12_init 128 = .ok (.newarray .int, 2) := by decide +kernel
theorem m_1252 : (Cond.fieldLink "NoonValleyModel" 58 "NoonValleyModel" "planOf" "[I") ∈ BW := bw (tb6 52 (by decide +kernel)) (by decide +kernel)
theorem dX12_init_130 : decode cX12_init 130 = .ok (.putfield 58, 3) := by decide +kernel
theorem dX12_init_133 : decode cX12_init 133 = .ok (.aload_n 0, 1) := by decide +kernel
theorem dX12_init_134 : decode cX12_init 134 = .ok (.bipush 12, 2) := by decide +kernel
theorem dX12_init_136 : decode cX12_init 136 = .ok (.newarray .int, 2) := by decide +kernel
theorem m_1253 : (Cond.fieldLink "NoonValleyModel" 61 "NoonValleyModel" "calls" "[I") ∈ BW := bw (tb6 53 (by decide +kernel)) (by decide +kernel)
theorem dX12_init_138 : decode cX12_init 138 = .ok (.putfield 61, 3) := by decide +kernel
theorem dX12_init_141 : decode cX12_init 141 = .ok (.aload_n 0, 1) := by decide +kernel
theorem dX12_init_142 : decode cX12_init 142 = .ok (.sipush 480, 3) := by decide +kernel
theorem dX12_init_145 : decode cX12_init 145 = .ok (.newarray .int, 2) := by decide +kernel
theorem m_1254 : (Cond.fieldLink "NoonValleyModel" 64 "NoonValleyModel" "callHour" "[I") ∈ BW := bw (tb6 54 (by decide +kernel)) (by decide +kernel)
theorem dX12_init_147 : decode cX12_init 147 = .ok (.putfield 64, 3) := by decide +kernel
theorem dX12_init_150 : decode cX12_init 150 = .ok (.aload_n 0, 1) := by decide +kernel
theorem dX12_init_151 : decode cX12_init 151 = .ok (.sipush 480, 3) := by decide +kernel
theorem dX12_init_154 : decode cX12_init 154 = .ok (.newarray .int, 2) := by decide +kernel
theorem m_1255 : (Cond.fieldLink "NoonValleyModel" 67 "NoonValleyModel" "callKind" "[I") ∈ BW := bw (tb6 55 (by decide +kernel)) (by decide +kernel)
theorem dX12_init_156 : decode cX12_init 156 = .ok (.putfield 67, 3) := by decide +kernel
theorem dX12_init_159 : decode cX12_init 159 = .ok (.aload_n 0, 1) := by decide +kernel
theorem dX12_init_160 : decode cX12_init 160 = .ok (.sipush 480, 3) := by decide +kernel
theorem dX12_init_163 : decode cX12_init 163 = .ok (.newarray .int, 2) := by decide +kernel
theorem m_1256 : (Cond.fieldLink "NoonValleyModel" 70 "NoonValleyModel" "callOne" "[I") ∈ BW := bw (tb6 56 (by decide +kernel)) (by decide +kernel)
theorem dX12_init_165 : decode cX12_init 165 = .ok (.putfield 70, 3) := by decide +kernel
theorem dX12_init_168 : decode cX12_init 168 = .ok (.aload_n 0, 1) := by decide +kernel
theorem dX12_init_169 : decode cX12_init 169 = .ok (.sipush 480, 3) := by decide +kernel
theorem dX12_init_172 : decode cX12_init 172 = .ok (.newarray .int, 2) := by decide +kernel
theorem m_1257 : (Cond.fieldLink "NoonValleyModel" 73 "NoonValleyModel" "callOther" "[I") ∈ BW := bw (tb6 57 (by decide +kernel)) (by decide +kernel)
theorem dX12_init_174 : decode cX12_init 174 = .ok (.putfield 73, 3) := by decide +kernel
theorem dX12_init_177 : decode cX12_init 177 = .ok (.aload_n 0, 1) := by decide +kernel
theorem dX12_init_178 : decode cX12_init 178 = .ok (.bipush 40, 2) := by decide +kernel
theorem dX12_init_180 : decode cX12_init 180 = .ok (.newarray .int, 2) := by decide +kernel
theorem m_1259 : (Cond.fieldLink "NoonValleyModel" 76 "NoonValleyModel" "law" "[I") ∈ BW := bw (tb6 59 (by decide +kernel)) (by decide +kernel)
theorem dX12_init_182 : decode cX12_init 182 = .ok (.putfield 76, 3) := by decide +kernel
theorem dX12_init_185 : decode cX12_init 185 = .ok (.aload_n 0, 1) := by decide +kernel
theorem dX12_init_186 : decode cX12_init 186 = .ok (.bipush 40, 2) := by decide +kernel
theorem dX12_init_188 : decode cX12_init 188 = .ok (.newarray .int, 2) := by decide +kernel
theorem m_1260 : (Cond.fieldLink "NoonValleyModel" 79 "NoonValleyModel" "reached" "[I") ∈ BW := bw (tb6 60 (by decide +kernel)) (by decide +kernel)
theorem dX12_init_190 : decode cX12_init 190 = .ok (.putfield 79, 3) := by decide +kernel
theorem dX12_init_193 : decode cX12_init 193 = .ok (.aload_n 0, 1) := by decide +kernel
theorem dX12_init_194 : decode cX12_init 194 = .ok (.sipush 175, 3) := by decide +kernel
theorem dX12_init_197 : decode cX12_init 197 = .ok (.newarray .int, 2) := by decide +kernel
theorem m_1261 : (Cond.fieldLink "NoonValleyModel" 82 "NoonValleyModel" "after" "[I") ∈ BW := bw (tb6 61 (by decide +kernel)) (by decide +kernel)
theorem dX12_init_199 : decode cX12_init 199 = .ok (.putfield 82, 3) := by decide +kernel
theorem dX12_init_202 : decode cX12_init 202 = .ok (.aload_n 0, 1) := by decide +kernel
theorem dX12_init_203 : decode cX12_init 203 = .ok (.sipush 175, 3) := by decide +kernel
theorem dX12_init_206 : decode cX12_init 206 = .ok (.newarray .int, 2) := by decide +kernel
theorem m_1262 : (Cond.fieldLink "NoonValleyModel" 85 "NoonValleyModel" "once" "[I") ∈ BW := bw (tb6 62 (by decide +kernel)) (by decide +kernel)
theorem dX12_init_208 : decode cX12_init 208 = .ok (.putfield 85, 3) := by decide +kernel
theorem dX12_init_211 : decode cX12_init 211 = .ok (.aload_n 0, 1) := by decide +kernel
theorem dX12_init_212 : decode cX12_init 212 = .ok (.bipush 7, 2) := by decide +kernel
theorem dX12_init_214 : decode cX12_init 214 = .ok (.newarray .int, 2) := by decide +kernel
theorem m_1263 : (Cond.fieldLink "NoonValleyModel" 88 "NoonValleyModel" "fresh" "[I") ∈ BW := bw (tb6 63 (by decide +kernel)) (by decide +kernel)
theorem dX12_init_216 : decode cX12_init 216 = .ok (.putfield 88, 3) := by decide +kernel
theorem dX12_init_219 : decode cX12_init 219 = .ok (.aload_n 0, 1) := by decide +kernel
theorem dX12_init_220 : decode cX12_init 220 = .ok (.bipush 7, 2) := by decide +kernel
theorem dX12_init_222 : decode cX12_init 222 = .ok (.newarray .int, 2) := by decide +kernel
theorem m_1264 : (Cond.fieldLink "NoonValleyModel" 91 "NoonValleyModel" "twice" "[I") ∈ BW := bw (tb6 64 (by decide +kernel)) (by decide +kernel)
theorem dX12_init_224 : decode cX12_init 224 = .ok (.putfield 91, 3) := by decide +kernel
theorem dX12_init_227 : decode cX12_init 227 = .ok (.aload_n 0, 1) := by decide +kernel
theorem m_1229 : (Cond.constant "NoonValleyModel" 94 (425984 : Int32)) ∈ BW := bw (tb6 29 (by decide +kernel)) (by decide +kernel)
theorem dX12_init_228 : decode cX12_init 228 = .ok (.ldc 94, 2) := by decide +kernel
theorem dX12_init_230 : decode cX12_init 230 = .ok (.newarray .byte, 2) := by decide +kernel
theorem m_1265 : (Cond.fieldLink "NoonValleyModel" 95 "NoonValleyModel" "need" "[B") ∈ BW := bw (tb6 65 (by decide +kernel)) (by decide +kernel)
theorem dX12_init_232 : decode cX12_init 232 = .ok (.putfield 95, 3) := by decide +kernel
theorem dX12_init_235 : decode cX12_init 235 = .ok (.aload_n 0, 1) := by decide +kernel
theorem dX12_init_236 : decode cX12_init 236 = .ok (.bipush 7, 2) := by decide +kernel
theorem dX12_init_238 : decode cX12_init 238 = .ok (.newarray .int, 2) := by decide +kernel
theorem m_1266 : (Cond.fieldLink "NoonValleyModel" 98 "NoonValleyModel" "row" "[I") ∈ BW := bw (tb6 66 (by decide +kernel)) (by decide +kernel)
theorem dX12_init_240 : decode cX12_init 240 = .ok (.putfield 98, 3) := by decide +kernel
theorem dX12_init_243 : decode cX12_init 243 = .ok (.aload_n 0, 1) := by decide +kernel
theorem dX12_init_244 : decode cX12_init 244 = .ok (.bipush 7, 2) := by decide +kernel
theorem dX12_init_246 : decode cX12_init 246 = .ok (.newarray .int, 2) := by decide +kernel
theorem m_1267 : (Cond.fieldLink "NoonValleyModel" 101 "NoonValleyModel" "lowRow" "[I") ∈ BW := bw (tb6 67 (by decide +kernel)) (by decide +kernel)
theorem dX12_init_248 : decode cX12_init 248 = .ok (.putfield 101, 3) := by decide +kernel
theorem dX12_init_251 : decode cX12_init 251 = .ok (.aload_n 0, 1) := by decide +kernel
theorem dX12_init_252 : decode cX12_init 252 = .ok (.bipush 112, 2) := by decide +kernel
theorem dX12_init_254 : decode cX12_init 254 = .ok (.newarray .int, 2) := by decide +kernel
theorem m_1273 : (Cond.fieldLink "NoonValleyModel" 104 "NoonValleyModel" "things" "[I") ∈ BW := bw (tb6 73 (by decide +kernel)) (by decide +kernel)
theorem dX12_init_256 : decode cX12_init 256 = .ok (.putfield 104, 3) := by decide +kernel
theorem dX12_init_259 : decode cX12_init 259 = .ok (.aload_n 0, 1) := by decide +kernel
theorem dX12_init_260 : decode cX12_init 260 = .ok (.bipush 16, 2) := by decide +kernel
theorem dX12_init_262 : decode cX12_init 262 = .ok (.newarray .int, 2) := by decide +kernel
theorem m_1274 : (Cond.fieldLink "NoonValleyModel" 107 "NoonValleyModel" "gossipRow" "[I") ∈ BW := bw (tb6 74 (by decide +kernel)) (by decide +kernel)
theorem dX12_init_264 : decode cX12_init 264 = .ok (.putfield 107, 3) := by decide +kernel
theorem dX12_init_267 : decode cX12_init 267 = .ok (.aload_n 0, 1) := by decide +kernel
theorem dX12_init_268 : decode cX12_init 268 = .ok (.bipush 12, 2) := by decide +kernel
theorem dX12_init_270 : decode cX12_init 270 = .ok (.newarray .boolean, 2) := by decide +kernel
theorem m_1275 : (Cond.fieldLink "NoonValleyModel" 110 "NoonValleyModel" "isLower" "[Z") ∈ BW := bw (tb6 75 (by decide +kernel)) (by decide +kernel)
theorem dX12_init_272 : decode cX12_init 272 = .ok (.putfield 110, 3) := by decide +kernel
theorem dX12_init_275 : decode cX12_init 275 = .ok (.aload_n 0, 1) := by decide +kernel
theorem m_1230 : (Cond.constant "NoonValleyModel" 113 (65536 : Int32)) ∈ BW := bw (tb6 30 (by decide +kernel)) (by decide +kernel)
theorem dX12_init_276 : decode cX12_init 276 = .ok (.ldc 113, 2) := by decide +kernel
theorem dX12_init_278 : decode cX12_init 278 = .ok (.newarray .int, 2) := by decide +kernel
theorem m_1276 : (Cond.fieldLink "NoonValleyModel" 114 "NoonValleyModel" "cost" "[I") ∈ BW := bw (tb6 76 (by decide +kernel)) (by decide +kernel)
theorem dX12_init_280 : decode cX12_init 280 = .ok (.putfield 114, 3) := by decide +kernel
theorem dX12_init_283 : decode cX12_init 283 = .ok (.aload_n 0, 1) := by decide +kernel
theorem dX12_init_284 : decode cX12_init 284 = .ok (.ldc 113, 2) := by decide +kernel
theorem dX12_init_286 : decode cX12_init 286 = .ok (.newarray .int, 2) := by decide +kernel
theorem m_1277 : (Cond.fieldLink "NoonValleyModel" 117 "NoonValleyModel" "costNext" "[I") ∈ BW := bw (tb6 77 (by decide +kernel)) (by decide +kernel)
theorem dX12_init_288 : decode cX12_init 288 = .ok (.putfield 117, 3) := by decide +kernel
theorem dX12_init_291 : decode cX12_init 291 = .ok (.aload_n 0, 1) := by decide +kernel
theorem dX12_init_292 : decode cX12_init 292 = .ok (.bipush 9, 2) := by decide +kernel
theorem dX12_init_294 : decode cX12_init 294 = .ok (.newarray .int, 2) := by decide +kernel
theorem m_1278 : (Cond.fieldLink "NoonValleyModel" 120 "NoonValleyModel" "tradeCosts" "[I") ∈ BW := bw (tb6 78 (by decide +kernel)) (by decide +kernel)
theorem dX12_init_296 : decode cX12_init 296 = .ok (.putfield 120, 3) := by decide +kernel
theorem dX12_init_299 : decode cX12_init 299 = .ok (.aload_n 0, 1) := by decide +kernel
theorem dX12_init_300 : decode cX12_init 300 = .ok (.sipush 420, 3) := by decide +kernel
theorem dX12_init_303 : decode cX12_init 303 = .ok (.newarray .int, 2) := by decide +kernel
theorem m_1279 : (Cond.fieldLink "NoonValleyModel" 123 "NoonValleyModel" "cards" "[I") ∈ BW := bw (tb6 79 (by decide +kernel)) (by decide +kernel)
theorem dX12_init_305 : decode cX12_init 305 = .ok (.putfield 123, 3) := by decide +kernel
theorem dX12_init_308 : decode cX12_init 308 = .ok (.aload_n 0, 1) := by decide +kernel
theorem dX12_init_309 : decode cX12_init 309 = .ok (.bipush 77, 2) := by decide +kernel
theorem dX12_init_311 : decode cX12_init 311 = .ok (.newarray .int, 2) := by decide +kernel
theorem m_1280 : (Cond.fieldLink "NoonValleyModel" 126 "NoonValleyModel" "cardLong" "[I") ∈ BW := bw (tb6 80 (by decide +kernel)) (by decide +kernel)
theorem dX12_init_313 : decode cX12_init 313 = .ok (.putfield 126, 3) := by decide +kernel
theorem dX12_init_316 : decode cX12_init 316 = .ok (.aload_n 0, 1) := by decide +kernel
theorem dX12_init_317 : decode cX12_init 317 = .ok (.bipush 7, 2) := by decide +kernel
theorem dX12_init_319 : decode cX12_init 319 = .ok (.newarray .int, 2) := by decide +kernel
theorem m_1281 : (Cond.fieldLink "NoonValleyModel" 129 "NoonValleyModel" "gone" "[I") ∈ BW := bw (tb6 81 (by decide +kernel)) (by decide +kernel)
theorem dX12_init_321 : decode cX12_init 321 = .ok (.putfield 129, 3) := by decide +kernel
theorem dX12_init_324 : decode cX12_init 324 = .ok (.aload_n 0, 1) := by decide +kernel
theorem dX12_init_325 : decode cX12_init 325 = .ok (.bipush 49, 2) := by decide +kernel
theorem dX12_init_327 : decode cX12_init 327 = .ok (.newarray .int, 2) := by decide +kernel
theorem m_1282 : (Cond.fieldLink "NoonValleyModel" 132 "NoonValleyModel" "below" "[I") ∈ BW := bw (tb6 82 (by decide +kernel)) (by decide +kernel)
theorem dX12_init_329 : decode cX12_init 329 = .ok (.putfield 132, 3) := by decide +kernel
theorem dX12_init_332 : decode cX12_init 332 = .ok (.aload_n 0, 1) := by decide +kernel
theorem dX12_init_333 : decode cX12_init 333 = .ok (.bipush 7, 2) := by decide +kernel
theorem dX12_init_335 : decode cX12_init 335 = .ok (.newarray .int, 2) := by decide +kernel
theorem m_1283 : (Cond.fieldLink "NoonValleyModel" 135 "NoonValleyModel" "belowMany" "[I") ∈ BW := bw (tb6 83 (by decide +kernel)) (by decide +kernel)
theorem dX12_init_337 : decode cX12_init 337 = .ok (.putfield 135, 3) := by decide +kernel
theorem dX12_init_340 : decode cX12_init 340 = .ok (.aload_n 0, 1) := by decide +kernel
theorem dX12_init_341 : decode cX12_init 341 = .ok (.bipush 7, 2) := by decide +kernel
theorem dX12_init_343 : decode cX12_init 343 = .ok (.newarray .int, 2) := by decide +kernel
theorem m_1284 : (Cond.fieldLink "NoonValleyModel" 138 "NoonValleyModel" "time" "[I") ∈ BW := bw (tb6 84 (by decide +kernel)) (by decide +kernel)
theorem dX12_init_345 : decode cX12_init 345 = .ok (.putfield 138, 3) := by decide +kernel
theorem dX12_init_348 : decode cX12_init 348 = .ok (.aload_n 0, 1) := by decide +kernel
theorem dX12_init_349 : decode cX12_init 349 = .ok (.iconst 3, 1) := by decide +kernel
theorem dX12_init_350 : decode cX12_init 350 = .ok (.newarray .int, 2) := by decide +kernel
theorem m_1285 : (Cond.fieldLink "NoonValleyModel" 141 "NoonValleyModel" "broken" "[I") ∈ BW := bw (tb6 85 (by decide +kernel)) (by decide +kernel)
theorem dX12_init_352 : decode cX12_init 352 = .ok (.putfield 141, 3) := by decide +kernel
theorem dX12_init_355 : decode cX12_init 355 = .ok (.aload_n 0, 1) := by decide +kernel
theorem dX12_init_356 : decode cX12_init 356 = .ok (.bipush 16, 2) := by decide +kernel
theorem dX12_init_358 : decode cX12_init 358 = .ok (.newarray .long, 2) := by decide +kernel
theorem m_1286 : (Cond.fieldLink "NoonValleyModel" 144 "NoonValleyModel" "ways" "[J") ∈ BW := bw (tb6 86 (by decide +kernel)) (by decide +kernel)
theorem dX12_init_360 : decode cX12_init 360 = .ok (.putfield 144, 3) := by decide +kernel
theorem dX12_init_363 : decode cX12_init 363 = .ok (.aload_n 0, 1) := by decide +kernel
theorem dX12_init_364 : decode cX12_init 364 = .ok (.bipush 16, 2) := by decide +kernel
theorem dX12_init_366 : decode cX12_init 366 = .ok (.newarray .long, 2) := by decide +kernel
theorem m_1287 : (Cond.fieldLink "NoonValleyModel" 148 "NoonValleyModel" "waysNext" "[J") ∈ BW := bw (tb6 87 (by decide +kernel)) (by decide +kernel)
theorem dX12_init_368 : decode cX12_init 368 = .ok (.putfield 148, 3) := by decide +kernel
theorem dX12_init_371 : decode cX12_init 371 = .ok (.aload_n 0, 1) := by decide +kernel
theorem dX12_init_372 : decode cX12_init 372 = .ok (.sipush 308, 3) := by decide +kernel
theorem dX12_init_375 : decode cX12_init 375 = .ok (.newarray .int, 2) := by decide +kernel
theorem m_1288 : (Cond.fieldLink "NoonValleyModel" 151 "NoonValleyModel" "tales" "[I") ∈ BW := bw (tb6 88 (by decide +kernel)) (by decide +kernel)
theorem dX12_init_377 : decode cX12_init 377 = .ok (.putfield 151, 3) := by decide +kernel
theorem dX12_init_380 : decode cX12_init 380 = .ok (.aload_n 0, 1) := by decide +kernel
theorem dX12_init_381 : decode cX12_init 381 = .ok (.sipush 16384, 3) := by decide +kernel
theorem dX12_init_384 : decode cX12_init 384 = .ok (.newarray .boolean, 2) := by decide +kernel
theorem m_1289 : (Cond.fieldLink "NoonValleyModel" 154 "NoonValleyModel" "can" "[Z") ∈ BW := bw (tb6 89 (by decide +kernel)) (by decide +kernel)
theorem dX12_init_386 : decode cX12_init 386 = .ok (.putfield 154, 3) := by decide +kernel
theorem dX12_init_389 : decode cX12_init 389 = .ok (.aload_n 0, 1) := by decide +kernel
theorem dX12_init_390 : decode cX12_init 390 = .ok (.sipush 16384, 3) := by decide +kernel
theorem dX12_init_393 : decode cX12_init 393 = .ok (.newarray .boolean, 2) := by decide +kernel
theorem m_1290 : (Cond.fieldLink "NoonValleyModel" 157 "NoonValleyModel" "canNext" "[Z") ∈ BW := bw (tb6 90 (by decide +kernel)) (by decide +kernel)
theorem dX12_init_395 : decode cX12_init 395 = .ok (.putfield 157, 3) := by decide +kernel
theorem dX12_init_398 : decode cX12_init 398 = .ok (.return_, 1) := by decide +kernel
set_option maxHeartbeats 4000000 in
set_option maxRecDepth 100000 in
theorem C_X7_state (l : Launch) (g : GG) (a b : Int32) : MetI l g yX7_state cX7_state 2 (some .int) 0 0 0 [.int a, .int b] [] (fun r u => u = []) := by
  refine MetI.of (own := RX7) rfl (by decide) (Nat.le_of_ble_eq_true rfl) ?_
  intro p e s m below meth c A ls args Q hQ X hr hin hW hl
  have hx := X.1
  have hb := X.2.1
  have hl : lv_has ls 2 [(0, .int a), (1, .int b)] := hl
  refine lv_iload_n (pc := 0) hx hb dX7_state_0 rfl (lv_at hl 0 rfl) ?_
  refine lv_iload_n (pc := 1) hx hb dX7_state_1 rfl (lv_at hl 1 rfl) ?_
  refine lv_bipush (v := 7) (pc := 2) hx hb dX7_state_2 (by decide) ?_
  refine lv_ishl (pc := 4) hx hb dX7_state_4 ?_
  refine lv_ior (pc := 5) hx hb dX7_state_5 ?_
  exact e_i X hQ hr hW (u := []) [] rfl rfl (rfl) ⟨Nat.le_of_ble_eq_true rfl, Nat.le_of_ble_eq_true rfl⟩ dX7_state_6

set_option maxHeartbeats 4000000 in
set_option maxRecDepth 100000 in
theorem C_X7_init (l : Launch) (g : GG) (h0 : Nat) : MetV l g yX7_init cX7_init 3 none 2 12 11635 [.ref h0] [(h0, .inr (7, [.null, .int 0, .int 0, .int 0, .int 0, .null, .null, .null, .null, .null, .null, .null, .int 0, .int 0, .int 0, .int 0, .int 0]))] (fun u => u = []) := by
  refine MetV.of (own := RX7) rfl (by decide) (Nat.le_of_ble_eq_true rfl) ?_
  intro p e s m below meth c A ls args Q hQ X hr hin hW hl
  have hx := X.1
  have hb := X.2.1
  have hl : lv_has ls 3 [(0, .ref h0)] := hl
  refine lv_aload_n (pc := 0) hx hb dX7_init_0 rfl (lv_at hl 0 rfl) ?_
  refine W.objInit hx hb X.2.2.2.1 (X.2.2.2.2.1 _ m_80) (X.2.2.2.2.1 _ m_28) (X.2.2.2.2.1 _ m_29) rfl (by rw [X.2.2.1]; exact hl.1) rfl dX7_init_1 (Nat.le_of_ble_eq_true rfl) (Nat.le_of_ble_eq_true rfl) ?_
  refine W.eq (g2 := F0 m 4 ls []) rfl ?_
  refine lv_aload_n (pc := 4) hx hb dX7_init_4 rfl (lv_at hl 0 rfl) ?_
  refine r_new (fs := [.null, .null, .null, .int 0, .null, .int 0]) X hW ciX5 m_81 m_82 m_5 (by decide +kernel) ⟨Nat.le_of_ble_eq_true rfl, Nat.le_of_ble_eq_true rfl⟩ dX7_init_5 (fun q1 H hW => ?_)
  have hW : WD g A s _ _ [(h0, .inr (7, [.null, .int 0, .int 0, .int 0, .int 0, .null, .null, .null, .null, .null, .null, .null, .int 0, .int 0, .int 0, .int 0, .int 0])), (q1, .inr (5, [.null, .null, .null, .int 0, .null, .int 0]))] := hW
  refine lv_dup (pc := 8) hx hb dX7_init_8 rfl ?_
  refine c_INv (pc := 9) (As := []) (rest := [.ref q1, .ref h0]) (wr := [(h0, .inr (7, [.null, .int 0, .int 0, .int 0, .int 0, .null, .null, .null, .null, .null, .null, .null, .int 0, .int 0, .int 0, .int 0, .int 0]))]) X hW (C_X5_init l g q1) vX7_11 [1] [0] rfl rfl rfl rfl rfl rfl hl.1 rfl (Nat.le_of_ble_eq_true rfl) ⟨Nat.le_of_ble_eq_true rfl, Nat.le_of_ble_eq_true rfl⟩ ⟨Nat.le_of_ble_eq_true rfl, Nat.le_of_ble_eq_true rfl⟩ dX7_init_9 (fun u9 H locs hq hW => ?_)
  obtain rfl := hq
  have hW : WD g A s _ _ [(h0, .inr (7, [.null, .int 0, .int 0, .int 0, .int 0, .null, .null, .null, .null, .null, .null, .null, .int 0, .int 0, .int 0, .int 0, .int 0]))] := hW
  refine r_putF (ws' := [(h0, .inr (7, [.ref q1, .int 0, .int 0, .int 0, .int 0, .null, .null, .null, .null, .null, .null, .null, .int 0, .int 0, .int 0, .int 0, .int 0]))]) X hin hW 0 ciX7 0 rfl (by decide) m_113 rfl rfl rfl rfl rfl (Nat.le_of_ble_eq_true rfl) rfl dX7_init_12 (fun H locs hW => ?_)
  refine lv_aload_n (pc := 15) hx hb dX7_init_15 rfl (lv_at hl 0 rfl) ?_
  refine lv_sipush (v := 175) (pc := 16) hx hb dX7_init_16 (by decide) ?_
  refine r_newa (a0 := (175, .inl (fun _ => 0))) X hW .int rfl m_47 1 rfl (by intro C h; cases h) (fun _ => rfl) (by decide) (by decide) (Nat.le_of_ble_eq_true rfl) ⟨Nat.le_of_ble_eq_true rfl, Nat.le_of_ble_eq_true rfl⟩ dX7_init_19 (fun q2 H hW => ?_)
  have hW : WD g A s _ _ [(h0, .inr (7, [.ref q1, .int 0, .int 0, .int 0, .int 0, .null, .null, .null, .null, .null, .null, .null, .int 0, .int 0, .int 0, .int 0, .int 0]))] := hW.pick [0] rfl rfl
  refine r_putF (ws' := [(h0, .inr (7, [.ref q1, .int 0, .int 0, .int 0, .int 0, .ref q2, .null, .null, .null, .null, .null, .null, .int 0, .int 0, .int 0, .int 0, .int 0]))]) X hin hW 0 ciX7 5 rfl (by decide) m_118 rfl rfl rfl rfl rfl (Nat.le_of_ble_eq_true rfl) rfl dX7_init_21 (fun H locs hW => ?_)
  refine lv_aload_n (pc := 24) hx hb dX7_init_24 rfl (lv_at hl 0 rfl) ?_
  refine lv_sipush (v := 128) (pc := 25) hx hb dX7_init_25 (by decide) ?_
  refine r_newa (a0 := (128, .inl (fun _ => 0))) X hW .int rfl m_47 1 rfl (by intro C h; cases h) (fun _ => rfl) (by decide) (by decide) (Nat.le_of_ble_eq_true rfl) ⟨Nat.le_of_ble_eq_true rfl, Nat.le_of_ble_eq_true rfl⟩ dX7_init_28 (fun q3 H hW => ?_)
  have hW : WD g A s _ _ [(h0, .inr (7, [.ref q1, .int 0, .int 0, .int 0, .int 0, .ref q2, .null, .null, .null, .null, .null, .null, .int 0, .int 0, .int 0, .int 0, .int 0])), (q3, .inl (g.2.1 1, 128, .inl (fun _ => 0)))] := hW
  refine r_putF (ws' := [(h0, .inr (7, [.ref q1, .int 0, .int 0, .int 0, .int 0, .ref q2, .ref q3, .null, .null, .null, .null, .null, .int 0, .int 0, .int 0, .int 0, .int 0])), (q3, .inl (g.2.1 1, 128, .inl (fun _ => 0)))]) X hin hW 0 ciX7 6 rfl (by decide) m_119 rfl rfl rfl rfl rfl (Nat.le_of_ble_eq_true rfl) rfl dX7_init_30 (fun H locs hW => ?_)
  refine lv_aload_n (pc := 33) hx hb dX7_init_33 rfl (lv_at hl 0 rfl) ?_
  refine lv_sipush (v := 2187) (pc := 34) hx hb dX7_init_34 (by decide) ?_
  refine r_newa (a0 := (2187, .inl (fun _ => 0))) X hW .int rfl m_47 1 rfl (by intro C h; cases h) (fun _ => rfl) (by decide) (by decide) (Nat.le_of_ble_eq_true rfl) ⟨Nat.le_of_ble_eq_true rfl, Nat.le_of_ble_eq_true rfl⟩ dX7_init_37 (fun q4 H hW => ?_)
  have hW : WD g A s _ _ [(h0, .inr (7, [.ref q1, .int 0, .int 0, .int 0, .int 0, .ref q2, .ref q3, .null, .null, .null, .null, .null, .int 0, .int 0, .int 0, .int 0, .int 0])), (q3, .inl (g.2.1 1, 128, .inl (fun _ => 0))), (q4, .inl (g.2.1 1, 2187, .inl (fun _ => 0)))] := hW
  refine r_putF (ws' := [(h0, .inr (7, [.ref q1, .int 0, .int 0, .int 0, .int 0, .ref q2, .ref q3, .ref q4, .null, .null, .null, .null, .int 0, .int 0, .int 0, .int 0, .int 0])), (q3, .inl (g.2.1 1, 128, .inl (fun _ => 0))), (q4, .inl (g.2.1 1, 2187, .inl (fun _ => 0)))]) X hin hW 0 ciX7 7 rfl (by decide) m_120 rfl rfl rfl rfl rfl (Nat.le_of_ble_eq_true rfl) rfl dX7_init_39 (fun H locs hW => ?_)
  refine lv_aload_n (pc := 42) hx hb dX7_init_42 rfl (lv_at hl 0 rfl) ?_
  refine lv_sipush (v := 2187) (pc := 43) hx hb dX7_init_43 (by decide) ?_
  refine r_newa (a0 := (2187, .inl (fun _ => 0))) X hW .int rfl m_47 1 rfl (by intro C h; cases h) (fun _ => rfl) (by decide) (by decide) (Nat.le_of_ble_eq_true rfl) ⟨Nat.le_of_ble_eq_true rfl, Nat.le_of_ble_eq_true rfl⟩ dX7_init_46 (fun q5 H hW => ?_)
  have hW : WD g A s _ _ [(h0, .inr (7, [.ref q1, .int 0, .int 0, .int 0, .int 0, .ref q2, .ref q3, .ref q4, .null, .null, .null, .null, .int 0, .int 0, .int 0, .int 0, .int 0])), (q3, .inl (g.2.1 1, 128, .inl (fun _ => 0))), (q4, .inl (g.2.1 1, 2187, .inl (fun _ => 0)))] := hW.pick [0, 1, 2] rfl rfl
  refine r_putF (ws' := [(h0, .inr (7, [.ref q1, .int 0, .int 0, .int 0, .int 0, .ref q2, .ref q3, .ref q4, .ref q5, .null, .null, .null, .int 0, .int 0, .int 0, .int 0, .int 0])), (q3, .inl (g.2.1 1, 128, .inl (fun _ => 0))), (q4, .inl (g.2.1 1, 2187, .inl (fun _ => 0)))]) X hin hW 0 ciX7 8 rfl (by decide) m_121 rfl rfl rfl rfl rfl (Nat.le_of_ble_eq_true rfl) rfl dX7_init_48 (fun H locs hW => ?_)
  refine lv_aload_n (pc := 51) hx hb dX7_init_51 rfl (lv_at hl 0 rfl) ?_
  refine lv_sipush (v := 2187) (pc := 52) hx hb dX7_init_52 (by decide) ?_
  refine r_newa (a0 := (2187, .inl (fun _ => 0))) X hW .int rfl m_47 1 rfl (by intro C h; cases h) (fun _ => rfl) (by decide) (by decide) (Nat.le_of_ble_eq_true rfl) ⟨Nat.le_of_ble_eq_true rfl, Nat.le_of_ble_eq_true rfl⟩ dX7_init_55 (fun q6 H hW => ?_)
  have hW : WD g A s _ _ [(h0, .inr (7, [.ref q1, .int 0, .int 0, .int 0, .int 0, .ref q2, .ref q3, .ref q4, .ref q5, .null, .null, .null, .int 0, .int 0, .int 0, .int 0, .int 0])), (q3, .inl (g.2.1 1, 128, .inl (fun _ => 0))), (q4, .inl (g.2.1 1, 2187, .inl (fun _ => 0)))] := hW.pick [0, 1, 2] rfl rfl
  refine r_putF (ws' := [(h0, .inr (7, [.ref q1, .int 0, .int 0, .int 0, .int 0, .ref q2, .ref q3, .ref q4, .ref q5, .ref q6, .null, .null, .int 0, .int 0, .int 0, .int 0, .int 0])), (q3, .inl (g.2.1 1, 128, .inl (fun _ => 0))), (q4, .inl (g.2.1 1, 2187, .inl (fun _ => 0)))]) X hin hW 0 ciX7 9 rfl (by decide) m_122 rfl rfl rfl rfl rfl (Nat.le_of_ble_eq_true rfl) rfl dX7_init_57 (fun H locs hW => ?_)
  refine lv_aload_n (pc := 60) hx hb dX7_init_60 rfl (lv_at hl 0 rfl) ?_
  refine lv_sipush (v := 2187) (pc := 61) hx hb dX7_init_61 (by decide) ?_
  refine r_newa (a0 := (2187, .inl (fun _ => 0))) X hW .int rfl m_47 1 rfl (by intro C h; cases h) (fun _ => rfl) (by decide) (by decide) (Nat.le_of_ble_eq_true rfl) ⟨Nat.le_of_ble_eq_true rfl, Nat.le_of_ble_eq_true rfl⟩ dX7_init_64 (fun q7 H hW => ?_)
  have hW : WD g A s _ _ [(h0, .inr (7, [.ref q1, .int 0, .int 0, .int 0, .int 0, .ref q2, .ref q3, .ref q4, .ref q5, .ref q6, .null, .null, .int 0, .int 0, .int 0, .int 0, .int 0])), (q3, .inl (g.2.1 1, 128, .inl (fun _ => 0))), (q4, .inl (g.2.1 1, 2187, .inl (fun _ => 0)))] := hW.pick [0, 1, 2] rfl rfl
  refine r_put (ws' := [(h0, .inr (7, [.ref q1, .int 0, .int 0, .int 0, .int 0, .ref q2, .ref q3, .ref q4, .ref q5, .ref q6, .ref q7, .null, .int 0, .int 0, .int 0, .int 0, .int 0])), (q3, .inl (g.2.1 1, 128, .inl (fun _ => 0))), (q4, .inl (g.2.1 1, 2187, .inl (fun _ => 0)))]) X hW 0 ciX7 10 rfl (by decide) m_123 rfl rfl rfl rfl (Nat.le_of_ble_eq_true rfl) rfl dX7_init_66 (fun H locs hW => ?_)
  refine lv_aload_n (pc := 69) hx hb dX7_init_69 rfl (lv_at hl 0 rfl) ?_
  refine lv_sipush (v := 2187) (pc := 70) hx hb dX7_init_70 (by decide) ?_
  refine r_newa (a0 := (2187, .inl (fun _ => 0))) X hW .int rfl m_47 1 rfl (by intro C h; cases h) (fun _ => rfl) (by decide) (by decide) (Nat.le_of_ble_eq_true rfl) ⟨Nat.le_of_ble_eq_true rfl, Nat.le_of_ble_eq_true rfl⟩ dX7_init_73 (fun q8 H hW => ?_)
  have hW : WD g A s _ _ [(h0, .inr (7, [.ref q1, .int 0, .int 0, .int 0, .int 0, .ref q2, .ref q3, .ref q4, .ref q5, .ref q6, .ref q7, .null, .int 0, .int 0, .int 0, .int 0, .int 0])), (q3, .inl (g.2.1 1, 128, .inl (fun _ => 0))), (q4, .inl (g.2.1 1, 2187, .inl (fun _ => 0)))] := hW.pick [0, 1, 2] rfl rfl
  refine r_put (ws' := [(h0, .inr (7, [.ref q1, .int 0, .int 0, .int 0, .int 0, .ref q2, .ref q3, .ref q4, .ref q5, .ref q6, .ref q7, .ref q8, .int 0, .int 0, .int 0, .int 0, .int 0])), (q3, .inl (g.2.1 1, 128, .inl (fun _ => 0))), (q4, .inl (g.2.1 1, 2187, .inl (fun _ => 0)))]) X hW 0 ciX7 11 rfl (by decide) m_124 rfl rfl rfl rfl (Nat.le_of_ble_eq_true rfl) rfl dX7_init_75 (fun H locs hW => ?_)
  refine lv_iconst (v := 1) (pc := 78) hx hb dX7_init_78 (by decide) ?_
  refine lv_istore_n (lv' := [(1, .int 1), (0, .ref h0)]) (pc := 79) hx hb dX7_init_79 rfl hl (by decide) rfl (fun ls hl => ?_)
  have loop1 : ∀ (n : Nat) (i : Nat) (f : Nat → Int32), (128 < n + i) → (1 ≤ i) → (i ≤ 128) → (∀ j, j < i → f j = nI (pw3 7 j)) → ∀ (H : Heap) (locs : List Loc) (ls : Array Slot), WD g A s H locs [(h0, .inr (7, [.ref q1, .int 0, .int 0, .int 0, .int 0, .ref q2, .ref q3, .ref q4, .ref q5, .ref q6, .ref q7, .ref q8, .int 0, .int 0, .int 0, .int 0, .int 0])), (q3, .inl (g.2.1 1, 128, .inl f)), (q4, .inl (g.2.1 1, 2187, .inl (fun _ => 0)))] → lv_has ls 3 [(0, .ref h0), (1, .int (nI i))] → W p l e (RM 2 12 11635) s m args below meth c H locs 12 11635 Q (F0 m 80 ls []) := by
    intro n
    induction n with
    | zero =>
      intro i f hm hi hi2 hf
      exact absurd hm (by omega)
    | succ n ih1 =>
      intro i f hm hi hi2 hf H locs ls hW hl
      refine lv_iload_n (pc := 80) hx hb dX7_init_80 rfl (lv_at hl 1 rfl) ?_
      refine lv_sipush (v := 128) (pc := 81) hx hb dX7_init_81 (by decide) ?_
      refine lv_icmp_ge (tgt := 113) (pc := 84) hx hb dX7_init_84 rfl (fun c9 => ?_) (fun c9 => ?_)
      · have hf : ∀ j, j < 128 → f j = nI (pw3 7 j) := fun j hj => hf j (by have := ge_t (k := 128) (by omega) (by decide) c9; omega)
        refine lv_iconst (v := 0) (pc := 113) hx hb dX7_init_113 (by decide) ?_
        refine lv_istore_n (lv' := [(1, .int 0), (0, .ref h0)]) (pc := 114) hx hb dX7_init_114 rfl hl (by decide) rfl (fun ls hl => ?_)
        have loop2 : ∀ (n : Nat) (k : Nat) (sf : Nat → Int32), (128 < n + k) → (k ≤ 128) → ∀ (H : Heap) (locs : List Loc) (ls : Array Slot), WD g A s H locs [(h0, .inr (7, [.ref q1, .int 0, .int 0, .int 0, .int 0, .ref q2, .ref q3, .ref q4, .ref q5, .ref q6, .ref q7, .ref q8, .int 0, .int 0, .int 0, .int 0, .int 0])), (q3, .inl (g.2.1 1, 128, .inl f)), (q4, .inl (g.2.1 1, 2187, .inl sf))] → lv_has ls 3 [(0, .ref h0), (1, .int (nI k))] → W p l e (RM 2 12 11635) s m args below meth c H locs 12 11635 Q (F0 m 115 ls []) := by
          intro n
          induction n with
          | zero =>
            intro k sf hm hk
            exact absurd hm (by omega)
          | succ n ih2 =>
            intro k sf hm hk H locs ls hW hl
            refine lv_iload_n (pc := 115) hx hb dX7_init_115 rfl (lv_at hl 1 rfl) ?_
            refine lv_sipush (v := 128) (pc := 116) hx hb dX7_init_116 (by decide) ?_
            refine lv_icmp_ge (tgt := 174) (pc := 119) hx hb dX7_init_119 rfl (fun c10 => ?_) (fun c10 => ?_)
            · exact e_v X hQ hr hW (u := []) [] rfl rfl (rfl) ⟨Nat.le_of_ble_eq_true rfl, Nat.le_of_ble_eq_true rfl⟩ dX7_init_174
            · have hlt : k < 128 := ge_f (by omega) (by decide) c10
              refine lv_iconst (v := 0) (pc := 122) hx hb dX7_init_122 (by decide) ?_
              refine lv_istore_n (lv' := [(2, .int 0), (0, .ref h0), (1, .int (nI k))]) (pc := 123) hx hb dX7_init_123 rfl hl (by decide) rfl (fun ls hl => ?_)
              have loop3 : ∀ (n : Nat) (o : Nat) (so : Nat → Int32), (128 < n + o) → (o ≤ 128) → ∀ (H : Heap) (locs : List Loc) (ls : Array Slot), WD g A s H locs [(h0, .inr (7, [.ref q1, .int 0, .int 0, .int 0, .int 0, .ref q2, .ref q3, .ref q4, .ref q5, .ref q6, .ref q7, .ref q8, .int 0, .int 0, .int 0, .int 0, .int 0])), (q3, .inl (g.2.1 1, 128, .inl f)), (q4, .inl (g.2.1 1, 2187, .inl so))] → lv_has ls 3 [(0, .ref h0), (1, .int (nI k)), (2, .int (nI o))] → W p l e (RM 2 12 11635) s m args below meth c H locs 12 11635 Q (F0 m 124 ls []) := by
                intro n
                induction n with
                | zero =>
                  intro o so hm ho
                  exact absurd hm (by omega)
                | succ n ih3 =>
                  intro o so hm ho H locs ls hW hl
                  refine lv_iload_n (pc := 124) hx hb dX7_init_124 rfl (lv_at hl 2 rfl) ?_
                  refine lv_sipush (v := 128) (pc := 125) hx hb dX7_init_125 (by decide) ?_
                  refine lv_icmp_ge (tgt := 168) (pc := 128) hx hb dX7_init_128 rfl (fun c11 => ?_) (fun c11 => ?_)
                  · refine lv_iinc (v := nI (k + 1)) (lv' := [(1, .int (nI (k + 1))), (0, .ref h0), (2, .int (nI o))]) (pc := 168) hx hb dX7_init_168 hl (k := 1) rfl (nI_1 k) (by decide) rfl (fun ls hl => ?_)
                    refine lv_goto (tgt := 115) (pc := 171) hx hb dX7_init_171 rfl ?_
                    exact ih2 (k + 1) so (by omega) (by omega) _ _ _ hW (lv_sub hl [1, 0] rfl)
                  · have hlt3 : o < 128 := ge_f (by omega) (by decide) c11
                    refine lv_iload_n (pc := 131) hx hb dX7_init_131 rfl (lv_at hl 1 rfl) ?_
                    refine lv_iload_n (pc := 132) hx hb dX7_init_132 rfl (lv_at hl 2 rfl) ?_
                    refine lv_iand (pc := 133) hx hb dX7_init_133 ?_
                    refine lv_if_ne (tgt := 162) (pc := 134) hx hb dX7_init_134 rfl (fun c12 => ?_) (fun c12 => ?_)
                    · refine lv_iinc (v := nI (o + 1)) (lv' := [(2, .int (nI (o + 1))), (0, .ref h0), (1, .int (nI k))]) (pc := 162) hx hb dX7_init_162 hl (k := 2) rfl (nI_1 o) (by decide) rfl (fun ls hl => ?_)
                      refine lv_goto (tgt := 124) (pc := 165) hx hb dX7_init_165 rfl ?_
                      exact ih3 (o + 1) so (by omega) (by omega) _ _ _ hW (lv_sub hl [1, 2, 0] rfl)
                    · have hz : k &&& o = 0 := by
                        have h9 : nI (k &&& o) = nI 0 := by rw [← fa_and]; exact c12
                        exact (nI_eq (Nat.lt_of_le_of_lt Nat.and_le_left (by omega)) (by decide)).mp h9
                      have hix := pw3_in k hlt o hlt3 hz
                      refine lv_aload_n (pc := 137) hx hb dX7_init_137 rfl (lv_at hl 0 rfl) ?_
                      refine r_get X hW 0 ciX7 7 rfl (by decide) m_120 rfl rfl dX7_init_138 ?_
                      refine lv_iconst (v := 2) (pc := 141) hx hb dX7_init_141 (by decide) ?_
                      refine lv_aload_n (pc := 142) hx hb dX7_init_142 rfl (lv_at hl 0 rfl) ?_
                      refine r_get X hW 0 ciX7 6 rfl (by decide) m_119 rfl rfl dX7_init_143 ?_
                      refine lv_iload_n (pc := 146) hx hb dX7_init_146 rfl (lv_at hl 1 rfl) ?_
                      refine r_iald X hW 1 rfl (vp_in_nI hlt (by decide)) dX7_init_147 ?_
                      refine lv_topi (fun v13 ev13 => ?_)
                      obtain rfl : v13 = nI (pw3 7 k) := ev13.trans (by rw [nI_clamp (by omega)]; exact hf _ hlt)
                      refine lv_imul (pc := 148) hx hb dX7_init_148 ?_
                      refine lv_topi (fun v14 ev14 => ?_)
                      obtain rfl : v14 = nI (2 * pw3 7 k) := ev14.trans (pk_mul 2 _)
                      refine lv_aload_n (pc := 149) hx hb dX7_init_149 rfl (lv_at hl 0 rfl) ?_
                      refine r_get X hW 0 ciX7 6 rfl (by decide) m_119 rfl rfl dX7_init_150 ?_
                      refine lv_iload_n (pc := 153) hx hb dX7_init_153 rfl (lv_at hl 2 rfl) ?_
                      refine r_iald X hW 1 rfl (vp_in_nI hlt3 (by decide)) dX7_init_154 ?_
                      refine lv_topi (fun v15 ev15 => ?_)
                      obtain rfl : v15 = nI (pw3 7 o) := ev15.trans (by rw [nI_clamp (by omega)]; exact hf _ hlt3)
                      refine lv_iadd (pc := 155) hx hb dX7_init_155 ?_
                      refine lv_topi (fun v16 ev16 => ?_)
                      obtain rfl : v16 = nI (2 * pw3 7 k + pw3 7 o) := ev16.trans (nI_add _ _)
                      refine lv_iload_n (pc := 156) hx hb dX7_init_156 rfl (lv_at hl 1 rfl) ?_
                      refine lv_iload_n (pc := 157) hx hb dX7_init_157 rfl (lv_at hl 2 rfl) ?_
                      refine c_Si (pc := 158) (As := [.int (nI k), .int (nI o)]) (rest := [.int (nI (2 * pw3 7 k + pw3 7 o)), .ref q4]) (wr := [(h0, .inr (7, [.ref q1, .int 0, .int 0, .int 0, .int 0, .ref q2, .ref q3, .ref q4, .ref q5, .ref q6, .ref q7, .ref q8, .int 0, .int 0, .int 0, .int 0, .int 0])), (q3, .inl (g.2.1 1, 128, .inl f)), (q4, .inl (g.2.1 1, 2187, .inl so))]) X hW (C_X7_state l g (nI k) (nI o)) vX7_40 [] [0, 1, 2] rfl rfl rfl rfl rfl rfl hl.1 rfl (Nat.le_of_ble_eq_true rfl) ⟨Nat.le_of_ble_eq_true rfl, Nat.le_of_ble_eq_true rfl⟩ ⟨Nat.le_of_ble_eq_true rfl, Nat.le_of_ble_eq_true rfl⟩ dX7_init_158 (fun r17 u9 H locs hq hW => ?_)
                      obtain rfl := hq
                      have hW : WD g A s _ _ [(h0, .inr (7, [.ref q1, .int 0, .int 0, .int 0, .int 0, .ref q2, .ref q3, .ref q4, .ref q5, .ref q6, .ref q7, .ref q8, .int 0, .int 0, .int 0, .int 0, .int 0])), (q3, .inl (g.2.1 1, 128, .inl f)), (q4, .inl (g.2.1 1, 2187, .inl so))] := hW
                      obtain ⟨f18, ef18⟩ : ∃ fz : Nat → Int32, upd so (nI (2 * pw3 7 k + pw3 7 o)).toNatClampNeg r17 = fz := ⟨_, rfl⟩
                      refine r_iast (ws' := [(h0, .inr (7, [.ref q1, .int 0, .int 0, .int 0, .int 0, .ref q2, .ref q3, .ref q4, .ref q5, .ref q6, .ref q7, .ref q8, .int 0, .int 0, .int 0, .int 0, .int 0])), (q3, .inl (g.2.1 1, 128, .inl f)), (q4, .inl (g.2.1 1, 2187, .inl f18))]) X hW 2 rfl (vp_in_nI hix (by decide)) ef18 rfl dX7_init_161 (fun H locs hW => ?_)
                      refine lv_iinc (v := nI (o + 1)) (lv' := [(2, .int (nI (o + 1))), (0, .ref h0), (1, .int (nI k))]) (pc := 162) hx hb dX7_init_162 hl (k := 2) rfl (nI_1 o) (by decide) rfl (fun ls hl => ?_)
                      refine lv_goto (tgt := 124) (pc := 165) hx hb dX7_init_165 rfl ?_
                      exact ih3 (o + 1) f18 (by omega) (by omega) _ _ _ hW (lv_sub hl [1, 2, 0] rfl)
              exact loop3 200 0 sf (by decide) (by decide) _ _ _ hW (lv_sub hl [1, 2, 0] rfl)
        exact loop2 200 0 (fun _ => 0) (by decide) (by decide) _ _ _ hW (lv_sub hl [1, 0] rfl)
      · have hlt : i < 128 := ge_f (by omega) (by decide) c9
        refine lv_aload_n (pc := 87) hx hb dX7_init_87 rfl (lv_at hl 0 rfl) ?_
        refine r_get X hW 0 ciX7 6 rfl (by decide) m_119 rfl rfl dX7_init_88 ?_
        refine lv_iload_n (pc := 91) hx hb dX7_init_91 rfl (lv_at hl 1 rfl) ?_
        refine lv_iload_n (pc := 92) hx hb dX7_init_92 rfl (lv_at hl 1 rfl) ?_
        refine lv_iconst (v := 2) (pc := 93) hx hb dX7_init_93 (by decide) ?_
        refine lv_irem (pc := 94) hx hb dX7_init_94 (by decide) ?_
        refine lv_topi (fun v19 ev19 => ?_)
        obtain rfl : v19 = nI (i % 2) := ev19.trans (pk_rem (by omega) (by decide) (by decide))
        refine lv_iconst (v := 3) (pc := 95) hx hb dX7_init_95 (by decide) ?_
        refine lv_aload_n (pc := 96) hx hb dX7_init_96 rfl (lv_at hl 0 rfl) ?_
        refine r_get X hW 0 ciX7 6 rfl (by decide) m_119 rfl rfl dX7_init_97 ?_
        refine lv_iload_n (pc := 100) hx hb dX7_init_100 rfl (lv_at hl 1 rfl) ?_
        refine lv_iconst (v := 2) (pc := 101) hx hb dX7_init_101 (by decide) ?_
        refine lv_idiv (pc := 102) hx hb dX7_init_102 (by decide) ?_
        refine lv_topi (fun v20 ev20 => ?_)
        obtain rfl : v20 = nI (i / 2) := ev20.trans (pk_div (by omega) (by decide) (by decide))
        refine r_iald X hW 1 rfl (vp_in_nI (by omega) (by decide)) dX7_init_103 ?_
        refine lv_topi (fun v21 ev21 => ?_)
        obtain rfl : v21 = nI (pw3 7 (i / 2)) := ev21.trans (by rw [nI_clamp (by omega)]; exact hf _ (by omega))
        refine lv_imul (pc := 104) hx hb dX7_init_104 ?_
        refine lv_topi (fun v22 ev22 => ?_)
        obtain rfl : v22 = nI (3 * pw3 7 (i / 2)) := ev22.trans (pk_mul 3 _)
        refine lv_iadd (pc := 105) hx hb dX7_init_105 ?_
        refine lv_topi (fun v23 ev23 => ?_)
        obtain rfl : v23 = nI (pw3 7 i) := ev23.trans ((nI_add _ _).trans (by rw [← pw3_step i hlt]))
        obtain ⟨f24, ef24⟩ : ∃ fz : Nat → Int32, upd f (nI i).toNatClampNeg (nI (pw3 7 i)) = fz := ⟨_, rfl⟩
        refine r_iast (ws' := [(h0, .inr (7, [.ref q1, .int 0, .int 0, .int 0, .int 0, .ref q2, .ref q3, .ref q4, .ref q5, .ref q6, .ref q7, .ref q8, .int 0, .int 0, .int 0, .int 0, .int 0])), (q3, .inl (g.2.1 1, 128, .inl f24)), (q4, .inl (g.2.1 1, 2187, .inl (fun _ => 0)))]) X hW 1 rfl (vp_in_nI hlt (by decide)) ef24 rfl dX7_init_106 (fun H locs hW => ?_)
        have hf2 : ∀ j, j < i + 1 → f24 j = nI (pw3 7 j) := fun j hj => by
          rw [upd_at (by omega) ef24 j]
          by_cases h : j = i
          · rw [if_pos h, h]
          · rw [if_neg h]; exact hf j (by omega)
        refine lv_iinc (v := nI (i + 1)) (lv' := [(1, .int (nI (i + 1))), (0, .ref h0)]) (pc := 107) hx hb dX7_init_107 hl (k := 1) rfl (nI_1 i) (by decide) rfl (fun ls hl => ?_)
        refine lv_goto (tgt := 80) (pc := 110) hx hb dX7_init_110 rfl ?_
        exact ih1 (i + 1) f24 (by omega) (by omega) (by omega) hf2 _ _ _ hW (lv_sub hl [1, 0] rfl)
  exact loop1 200 1 (fun _ => 0) (by decide) (by decide) (by decide) (fun j hj => by obtain rfl : j = 0 := (by omega); rfl) _ _ _ hW (lv_sub hl [1, 0] rfl)

set_option maxHeartbeats 4000000 in
set_option maxRecDepth 100000 in
theorem C_X11_init (l : Launch) (g : GG) (h0 : Nat) : MetV l g yX11_init cX11_init 1 none 3 48 20737 [.ref h0] [(h0, .inr (11, [.null, .null, .null, .null, .null, .null, .null, .null, .null, .null, .null, .int 0, .int 0, .int 0]))] (fun u => ∃ q1 q3 q4 q5 q6 q7 q8 q9 q10 q11 q14 q2 q12 q13 q15 q16 q17 q18 q19 q20 q21 q22 q23 q24 q25 q26 : Nat, u = [(h0, .inr (11, [.ref q1, .ref q3, .ref q4, .ref q5, .ref q6, .ref q7, .ref q8, .ref q9, .ref q10, .ref q11, .ref q14, .int 0, .int 0, .int 0])), (q1, .inr (8, [.ref q2, .int 0, .int 0])), (q11, .inr (2, [.ref q12, .ref q13])), (q12, .inl (g.2.1 2, 5, .inr (.inl (fun _ => 0)))), (q13, .inl (g.2.1 2, 5, .inr (.inl (fun _ => 0)))), (q14, .inr (10, [.int 0, .int 0, .int 0, .ref q15, .ref q16, .ref q17, .ref q18, .ref q19, .ref q20, .ref q21, .ref q22, .ref q23, .ref q24, .ref q25, .int (-2), .ref q26])), (q15, .inl (g.2.1 1, 4, .inl (fun _ => 0))), (q16, .inl (g.2.1 1, 4, .inl (fun _ => 0))), (q17, .inl (g.2.1 1, 4, .inl (fun _ => 0)))]) := by
  refine MetV.of (own := RX11) rfl (by decide) (Nat.le_of_ble_eq_true rfl) ?_
  intro p e s m below meth c A ls args Q hQ X hr hin hW hl
  have hx := X.1
  have hb := X.2.1
  have hl : lv_has ls 1 [(0, .ref h0)] := hl
  refine lv_aload_n (pc := 0) hx hb dX11_init_0 rfl (lv_at hl 0 rfl) ?_
  refine W.objInit hx hb X.2.2.2.1 (X.2.2.2.2.1 _ m_27) (X.2.2.2.2.1 _ m_28) (X.2.2.2.2.1 _ m_29) rfl (by rw [X.2.2.1]; exact hl.1) rfl dX11_init_1 (Nat.le_of_ble_eq_true rfl) (Nat.le_of_ble_eq_true rfl) ?_
  refine W.eq (g2 := F0 m 4 ls []) rfl ?_
  refine lv_aload_n (pc := 4) hx hb dX11_init_4 rfl (lv_at hl 0 rfl) ?_
  refine r_new (fs := [.null, .int 0, .int 0]) X hW ciX8 m_30 m_31 m_2 (by decide +kernel) ⟨Nat.le_of_ble_eq_true rfl, Nat.le_of_ble_eq_true rfl⟩ dX11_init_5 (fun q1 H hW => ?_)
  have hW : WD g A s _ _ [(h0, .inr (11, [.null, .null, .null, .null, .null, .null, .null, .null, .null, .null, .null, .int 0, .int 0, .int 0])), (q1, .inr (8, [.null, .int 0, .int 0]))] := hW
  refine lv_dup (pc := 8) hx hb dX11_init_8 rfl ?_
  refine c_INv (pc := 9) (As := []) (rest := [.ref q1, .ref h0]) (wr := [(h0, .inr (11, [.null, .null, .null, .null, .null, .null, .null, .null, .null, .null, .null, .int 0, .int 0, .int 0]))]) X hW (C_X8_init l g q1) vX11_9 [1] [0] rfl rfl rfl rfl rfl rfl hl.1 rfl (Nat.le_of_ble_eq_true rfl) ⟨Nat.le_of_ble_eq_true rfl, Nat.le_of_ble_eq_true rfl⟩ ⟨Nat.le_of_ble_eq_true rfl, Nat.le_of_ble_eq_true rfl⟩ dX11_init_9 (fun u9 H locs hq hW => ?_)
  obtain ⟨q2, rfl⟩ := hq
  have hW : WD g A s _ _ [(h0, .inr (11, [.null, .null, .null, .null, .null, .null, .null, .null, .null, .null, .null, .int 0, .int 0, .int 0])), (q1, .inr (8, [.ref q2, .int 0, .int 0]))] := hW
  refine r_putF (ws' := [(h0, .inr (11, [.ref q1, .null, .null, .null, .null, .null, .null, .null, .null, .null, .null, .int 0, .int 0, .int 0])), (q1, .inr (8, [.ref q2, .int 0, .int 0]))]) X hin hW 0 ciX11 0 rfl (by decide) m_353 rfl rfl rfl rfl rfl (Nat.le_of_ble_eq_true rfl) rfl dX11_init_12 (fun H locs hW => ?_)
  refine lv_aload_n (pc := 15) hx hb dX11_init_15 rfl (lv_at hl 0 rfl) ?_
  refine lv_bipush (v := 10) (pc := 16) hx hb dX11_init_16 (by decide) ?_
  refine r_newq (N := 10) X hW m_48 (fun h => h.2.2.1) 4 rfl (by decide) (by decide) (Nat.le_of_ble_eq_true rfl) ⟨Nat.le_of_ble_eq_true rfl, Nat.le_of_ble_eq_true rfl⟩ dX11_init_18 (fun q3 H hW => ?_)
  have hW : WD g A s _ _ [(h0, .inr (11, [.ref q1, .null, .null, .null, .null, .null, .null, .null, .null, .null, .null, .int 0, .int 0, .int 0])), (q1, .inr (8, [.ref q2, .int 0, .int 0]))] := hW.pick [0, 1] rfl rfl
  refine r_putF (ws' := [(h0, .inr (11, [.ref q1, .ref q3, .null, .null, .null, .null, .null, .null, .null, .null, .null, .int 0, .int 0, .int 0])), (q1, .inr (8, [.ref q2, .int 0, .int 0]))]) X hin hW 0 ciX11 1 rfl (by decide) m_354 rfl rfl rfl rfl rfl (Nat.le_of_ble_eq_true rfl) rfl dX11_init_21 (fun H locs hW => ?_)
  refine lv_aload_n (pc := 24) hx hb dX11_init_24 rfl (lv_at hl 0 rfl) ?_
  refine lv_bipush (v := 12) (pc := 25) hx hb dX11_init_25 (by decide) ?_
  refine r_newq (N := 12) X hW m_50 (fun h => h.2.2.2) 5 rfl (by decide) (by decide) (Nat.le_of_ble_eq_true rfl) ⟨Nat.le_of_ble_eq_true rfl, Nat.le_of_ble_eq_true rfl⟩ dX11_init_27 (fun q4 H hW => ?_)
  have hW : WD g A s _ _ [(h0, .inr (11, [.ref q1, .ref q3, .null, .null, .null, .null, .null, .null, .null, .null, .null, .int 0, .int 0, .int 0])), (q1, .inr (8, [.ref q2, .int 0, .int 0]))] := hW.pick [0, 1] rfl rfl
  refine r_putF (ws' := [(h0, .inr (11, [.ref q1, .ref q3, .ref q4, .null, .null, .null, .null, .null, .null, .null, .null, .int 0, .int 0, .int 0])), (q1, .inr (8, [.ref q2, .int 0, .int 0]))]) X hin hW 0 ciX11 2 rfl (by decide) m_355 rfl rfl rfl rfl rfl (Nat.le_of_ble_eq_true rfl) rfl dX11_init_30 (fun H locs hW => ?_)
  refine lv_aload_n (pc := 33) hx hb dX11_init_33 rfl (lv_at hl 0 rfl) ?_
  refine r_new (fs := [.null, .null, .int 0, .long 0, .long 0]) X hW ciX1 m_52 m_53 m_3 (by decide +kernel) ⟨Nat.le_of_ble_eq_true rfl, Nat.le_of_ble_eq_true rfl⟩ dX11_init_34 (fun q5 H hW => ?_)
  have hW : WD g A s _ _ [(h0, .inr (11, [.ref q1, .ref q3, .ref q4, .null, .null, .null, .null, .null, .null, .null, .null, .int 0, .int 0, .int 0])), (q1, .inr (8, [.ref q2, .int 0, .int 0])), (q5, .inr (1, [.null, .null, .int 0, .long 0, .long 0]))] := hW
  refine lv_dup (pc := 37) hx hb dX11_init_37 rfl ?_
  refine c_INv (pc := 38) (As := []) (rest := [.ref q5, .ref h0]) (wr := [(h0, .inr (11, [.ref q1, .ref q3, .ref q4, .null, .null, .null, .null, .null, .null, .null, .null, .int 0, .int 0, .int 0])), (q1, .inr (8, [.ref q2, .int 0, .int 0]))]) X hW (C_X1_init l g q5) vX11_30 [2] [0, 1] rfl rfl rfl rfl rfl rfl hl.1 rfl (Nat.le_of_ble_eq_true rfl) ⟨Nat.le_of_ble_eq_true rfl, Nat.le_of_ble_eq_true rfl⟩ ⟨Nat.le_of_ble_eq_true rfl, Nat.le_of_ble_eq_true rfl⟩ dX11_init_38 (fun u9 H locs hq hW => ?_)
  obtain rfl := hq
  have hW : WD g A s _ _ [(h0, .inr (11, [.ref q1, .ref q3, .ref q4, .null, .null, .null, .null, .null, .null, .null, .null, .int 0, .int 0, .int 0])), (q1, .inr (8, [.ref q2, .int 0, .int 0]))] := hW
  refine r_putF (ws' := [(h0, .inr (11, [.ref q1, .ref q3, .ref q4, .ref q5, .null, .null, .null, .null, .null, .null, .null, .int 0, .int 0, .int 0])), (q1, .inr (8, [.ref q2, .int 0, .int 0]))]) X hin hW 0 ciX11 3 rfl (by decide) m_356 rfl rfl rfl rfl rfl (Nat.le_of_ble_eq_true rfl) rfl dX11_init_41 (fun H locs hW => ?_)
  refine lv_aload_n (pc := 44) hx hb dX11_init_44 rfl (lv_at hl 0 rfl) ?_
  refine r_new (fs := [.null, .int 0, .int 0, .int 0, .int 0, .null, .null, .null, .null, .null, .null, .null, .int 0, .int 0, .int 0, .int 0, .int 0]) X hW ciX7 m_75 m_76 m_4 (by decide +kernel) ⟨Nat.le_of_ble_eq_true rfl, Nat.le_of_ble_eq_true rfl⟩ dX11_init_45 (fun q6 H hW => ?_)
  have hW : WD g A s _ _ [(h0, .inr (11, [.ref q1, .ref q3, .ref q4, .ref q5, .null, .null, .null, .null, .null, .null, .null, .int 0, .int 0, .int 0])), (q1, .inr (8, [.ref q2, .int 0, .int 0])), (q6, .inr (7, [.null, .int 0, .int 0, .int 0, .int 0, .null, .null, .null, .null, .null, .null, .null, .int 0, .int 0, .int 0, .int 0, .int 0]))] := hW
  refine lv_dup (pc := 48) hx hb dX11_init_48 rfl ?_
  refine c_Iv (pc := 49) (As := []) (rest := [.ref q6, .ref h0]) (wr := [(h0, .inr (11, [.ref q1, .ref q3, .ref q4, .ref q5, .null, .null, .null, .null, .null, .null, .null, .int 0, .int 0, .int 0])), (q1, .inr (8, [.ref q2, .int 0, .int 0]))]) X hW (C_X7_init l g q6) vX11_37 [2] [0, 1] rfl rfl rfl rfl rfl rfl hl.1 rfl (Nat.le_of_ble_eq_true rfl) ⟨Nat.le_of_ble_eq_true rfl, Nat.le_of_ble_eq_true rfl⟩ ⟨Nat.le_of_ble_eq_true rfl, Nat.le_of_ble_eq_true rfl⟩ dX11_init_49 (fun u9 H locs hq hW => ?_)
  obtain rfl := hq
  have hW : WD g A s _ _ [(h0, .inr (11, [.ref q1, .ref q3, .ref q4, .ref q5, .null, .null, .null, .null, .null, .null, .null, .int 0, .int 0, .int 0])), (q1, .inr (8, [.ref q2, .int 0, .int 0]))] := hW
  refine r_putF (ws' := [(h0, .inr (11, [.ref q1, .ref q3, .ref q4, .ref q5, .ref q6, .null, .null, .null, .null, .null, .null, .int 0, .int 0, .int 0])), (q1, .inr (8, [.ref q2, .int 0, .int 0]))]) X hin hW 0 ciX11 4 rfl (by decide) m_357 rfl rfl rfl rfl rfl (Nat.le_of_ble_eq_true rfl) rfl dX11_init_52 (fun H locs hW => ?_)
  refine lv_aload_n (pc := 55) hx hb dX11_init_55 rfl (lv_at hl 0 rfl) ?_
  refine r_new (fs := [.null, .int 0, .int 0, .int 0, .int 0]) X hW ciX6 m_168 m_169 m_6 (by decide +kernel) ⟨Nat.le_of_ble_eq_true rfl, Nat.le_of_ble_eq_true rfl⟩ dX11_init_56 (fun q7 H hW => ?_)
  have hW : WD g A s _ _ [(h0, .inr (11, [.ref q1, .ref q3, .ref q4, .ref q5, .ref q6, .null, .null, .null, .null, .null, .null, .int 0, .int 0, .int 0])), (q1, .inr (8, [.ref q2, .int 0, .int 0])), (q7, .inr (6, [.null, .int 0, .int 0, .int 0, .int 0]))] := hW
  refine lv_dup (pc := 59) hx hb dX11_init_59 rfl ?_
  refine c_INv (pc := 60) (As := []) (rest := [.ref q7, .ref h0]) (wr := [(h0, .inr (11, [.ref q1, .ref q3, .ref q4, .ref q5, .ref q6, .null, .null, .null, .null, .null, .null, .int 0, .int 0, .int 0])), (q1, .inr (8, [.ref q2, .int 0, .int 0]))]) X hW (C_X6_init l g q7) vX11_44 [2] [0, 1] rfl rfl rfl rfl rfl rfl hl.1 rfl (Nat.le_of_ble_eq_true rfl) ⟨Nat.le_of_ble_eq_true rfl, Nat.le_of_ble_eq_true rfl⟩ ⟨Nat.le_of_ble_eq_true rfl, Nat.le_of_ble_eq_true rfl⟩ dX11_init_60 (fun u9 H locs hq hW => ?_)
  obtain rfl := hq
  have hW : WD g A s _ _ [(h0, .inr (11, [.ref q1, .ref q3, .ref q4, .ref q5, .ref q6, .null, .null, .null, .null, .null, .null, .int 0, .int 0, .int 0])), (q1, .inr (8, [.ref q2, .int 0, .int 0]))] := hW
  refine r_putF (ws' := [(h0, .inr (11, [.ref q1, .ref q3, .ref q4, .ref q5, .ref q6, .ref q7, .null, .null, .null, .null, .null, .int 0, .int 0, .int 0])), (q1, .inr (8, [.ref q2, .int 0, .int 0]))]) X hin hW 0 ciX11 5 rfl (by decide) m_358 rfl rfl rfl rfl rfl (Nat.le_of_ble_eq_true rfl) rfl dX11_init_63 (fun H locs hW => ?_)
  refine lv_aload_n (pc := 66) hx hb dX11_init_66 rfl (lv_at hl 0 rfl) ?_
  refine r_new (fs := [.null, .int 0, .null]) X hW ciX3 m_190 m_191 m_7 (by decide +kernel) ⟨Nat.le_of_ble_eq_true rfl, Nat.le_of_ble_eq_true rfl⟩ dX11_init_67 (fun q8 H hW => ?_)
  have hW : WD g A s _ _ [(h0, .inr (11, [.ref q1, .ref q3, .ref q4, .ref q5, .ref q6, .ref q7, .null, .null, .null, .null, .null, .int 0, .int 0, .int 0])), (q1, .inr (8, [.ref q2, .int 0, .int 0])), (q8, .inr (3, [.null, .int 0, .null]))] := hW
  refine lv_dup (pc := 70) hx hb dX11_init_70 rfl ?_
  refine c_INv (pc := 71) (As := []) (rest := [.ref q8, .ref h0]) (wr := [(h0, .inr (11, [.ref q1, .ref q3, .ref q4, .ref q5, .ref q6, .ref q7, .null, .null, .null, .null, .null, .int 0, .int 0, .int 0])), (q1, .inr (8, [.ref q2, .int 0, .int 0]))]) X hW (C_X3_init l g q8) vX11_51 [2] [0, 1] rfl rfl rfl rfl rfl rfl hl.1 rfl (Nat.le_of_ble_eq_true rfl) ⟨Nat.le_of_ble_eq_true rfl, Nat.le_of_ble_eq_true rfl⟩ ⟨Nat.le_of_ble_eq_true rfl, Nat.le_of_ble_eq_true rfl⟩ dX11_init_71 (fun u9 H locs hq hW => ?_)
  obtain rfl := hq
  have hW : WD g A s _ _ [(h0, .inr (11, [.ref q1, .ref q3, .ref q4, .ref q5, .ref q6, .ref q7, .null, .null, .null, .null, .null, .int 0, .int 0, .int 0])), (q1, .inr (8, [.ref q2, .int 0, .int 0]))] := hW
  refine r_putF (ws' := [(h0, .inr (11, [.ref q1, .ref q3, .ref q4, .ref q5, .ref q6, .ref q7, .ref q8, .null, .null, .null, .null, .int 0, .int 0, .int 0])), (q1, .inr (8, [.ref q2, .int 0, .int 0]))]) X hin hW 0 ciX11 6 rfl (by decide) m_359 rfl rfl rfl rfl rfl (Nat.le_of_ble_eq_true rfl) rfl dX11_init_74 (fun H locs hW => ?_)
  refine lv_aload_n (pc := 77) hx hb dX11_init_77 rfl (lv_at hl 0 rfl) ?_
  refine r_new (fs := [.null, .null, .null]) X hW ciX9 m_206 m_207 m_8 (by decide +kernel) ⟨Nat.le_of_ble_eq_true rfl, Nat.le_of_ble_eq_true rfl⟩ dX11_init_78 (fun q9 H hW => ?_)
  have hW : WD g A s _ _ [(h0, .inr (11, [.ref q1, .ref q3, .ref q4, .ref q5, .ref q6, .ref q7, .ref q8, .null, .null, .null, .null, .int 0, .int 0, .int 0])), (q1, .inr (8, [.ref q2, .int 0, .int 0])), (q9, .inr (9, [.null, .null, .null]))] := hW
  refine lv_dup (pc := 81) hx hb dX11_init_81 rfl ?_
  refine c_INv (pc := 82) (As := []) (rest := [.ref q9, .ref h0]) (wr := [(h0, .inr (11, [.ref q1, .ref q3, .ref q4, .ref q5, .ref q6, .ref q7, .ref q8, .null, .null, .null, .null, .int 0, .int 0, .int 0])), (q1, .inr (8, [.ref q2, .int 0, .int 0]))]) X hW (C_X9_init l g q9) vX11_58 [2] [0, 1] rfl rfl rfl rfl rfl rfl hl.1 rfl (Nat.le_of_ble_eq_true rfl) ⟨Nat.le_of_ble_eq_true rfl, Nat.le_of_ble_eq_true rfl⟩ ⟨Nat.le_of_ble_eq_true rfl, Nat.le_of_ble_eq_true rfl⟩ dX11_init_82 (fun u9 H locs hq hW => ?_)
  obtain rfl := hq
  have hW : WD g A s _ _ [(h0, .inr (11, [.ref q1, .ref q3, .ref q4, .ref q5, .ref q6, .ref q7, .ref q8, .null, .null, .null, .null, .int 0, .int 0, .int 0])), (q1, .inr (8, [.ref q2, .int 0, .int 0]))] := hW
  refine r_putF (ws' := [(h0, .inr (11, [.ref q1, .ref q3, .ref q4, .ref q5, .ref q6, .ref q7, .ref q8, .ref q9, .null, .null, .null, .int 0, .int 0, .int 0])), (q1, .inr (8, [.ref q2, .int 0, .int 0]))]) X hin hW 0 ciX11 7 rfl (by decide) m_360 rfl rfl rfl rfl rfl (Nat.le_of_ble_eq_true rfl) rfl dX11_init_85 (fun H locs hW => ?_)
  refine lv_aload_n (pc := 88) hx hb dX11_init_88 rfl (lv_at hl 0 rfl) ?_
  refine r_new (fs := [.null, .int 0, .int 0, .null, .null, .null, .null]) X hW ciX0 m_224 m_225 m_9 (by decide +kernel) ⟨Nat.le_of_ble_eq_true rfl, Nat.le_of_ble_eq_true rfl⟩ dX11_init_89 (fun q10 H hW => ?_)
  have hW : WD g A s _ _ [(h0, .inr (11, [.ref q1, .ref q3, .ref q4, .ref q5, .ref q6, .ref q7, .ref q8, .ref q9, .null, .null, .null, .int 0, .int 0, .int 0])), (q1, .inr (8, [.ref q2, .int 0, .int 0])), (q10, .inr (0, [.null, .int 0, .int 0, .null, .null, .null, .null]))] := hW
  refine lv_dup (pc := 92) hx hb dX11_init_92 rfl ?_
  refine c_INv (pc := 93) (As := []) (rest := [.ref q10, .ref h0]) (wr := [(h0, .inr (11, [.ref q1, .ref q3, .ref q4, .ref q5, .ref q6, .ref q7, .ref q8, .ref q9, .null, .null, .null, .int 0, .int 0, .int 0])), (q1, .inr (8, [.ref q2, .int 0, .int 0]))]) X hW (C_X0_init l g q10) vX11_65 [2] [0, 1] rfl rfl rfl rfl rfl rfl hl.1 rfl (Nat.le_of_ble_eq_true rfl) ⟨Nat.le_of_ble_eq_true rfl, Nat.le_of_ble_eq_true rfl⟩ ⟨Nat.le_of_ble_eq_true rfl, Nat.le_of_ble_eq_true rfl⟩ dX11_init_93 (fun u9 H locs hq hW => ?_)
  obtain rfl := hq
  have hW : WD g A s _ _ [(h0, .inr (11, [.ref q1, .ref q3, .ref q4, .ref q5, .ref q6, .ref q7, .ref q8, .ref q9, .null, .null, .null, .int 0, .int 0, .int 0])), (q1, .inr (8, [.ref q2, .int 0, .int 0]))] := hW
  refine r_putF (ws' := [(h0, .inr (11, [.ref q1, .ref q3, .ref q4, .ref q5, .ref q6, .ref q7, .ref q8, .ref q9, .ref q10, .null, .null, .int 0, .int 0, .int 0])), (q1, .inr (8, [.ref q2, .int 0, .int 0]))]) X hin hW 0 ciX11 8 rfl (by decide) m_361 rfl rfl rfl rfl rfl (Nat.le_of_ble_eq_true rfl) rfl dX11_init_96 (fun H locs hW => ?_)
  refine lv_aload_n (pc := 99) hx hb dX11_init_99 rfl (lv_at hl 0 rfl) ?_
  refine r_new (fs := [.null, .null]) X hW ciX2 m_253 m_254 m_10 (by decide +kernel) ⟨Nat.le_of_ble_eq_true rfl, Nat.le_of_ble_eq_true rfl⟩ dX11_init_100 (fun q11 H hW => ?_)
  have hW : WD g A s _ _ [(h0, .inr (11, [.ref q1, .ref q3, .ref q4, .ref q5, .ref q6, .ref q7, .ref q8, .ref q9, .ref q10, .null, .null, .int 0, .int 0, .int 0])), (q1, .inr (8, [.ref q2, .int 0, .int 0])), (q11, .inr (2, [.null, .null]))] := hW
  refine lv_dup (pc := 103) hx hb dX11_init_103 rfl ?_
  refine c_INv (pc := 104) (As := []) (rest := [.ref q11, .ref h0]) (wr := [(h0, .inr (11, [.ref q1, .ref q3, .ref q4, .ref q5, .ref q6, .ref q7, .ref q8, .ref q9, .ref q10, .null, .null, .int 0, .int 0, .int 0])), (q1, .inr (8, [.ref q2, .int 0, .int 0]))]) X hW (C_X2_init l g q11) vX11_72 [2] [0, 1] rfl rfl rfl rfl rfl rfl hl.1 rfl (Nat.le_of_ble_eq_true rfl) ⟨Nat.le_of_ble_eq_true rfl, Nat.le_of_ble_eq_true rfl⟩ ⟨Nat.le_of_ble_eq_true rfl, Nat.le_of_ble_eq_true rfl⟩ dX11_init_104 (fun u9 H locs hq hW => ?_)
  obtain ⟨q12, q13, rfl⟩ := hq
  have hW : WD g A s _ _ [(h0, .inr (11, [.ref q1, .ref q3, .ref q4, .ref q5, .ref q6, .ref q7, .ref q8, .ref q9, .ref q10, .null, .null, .int 0, .int 0, .int 0])), (q1, .inr (8, [.ref q2, .int 0, .int 0])), (q11, .inr (2, [.ref q12, .ref q13])), (q12, .inl (g.2.1 2, 5, .inr (.inl (fun _ => 0)))), (q13, .inl (g.2.1 2, 5, .inr (.inl (fun _ => 0))))] := hW
  refine r_putF (ws' := [(h0, .inr (11, [.ref q1, .ref q3, .ref q4, .ref q5, .ref q6, .ref q7, .ref q8, .ref q9, .ref q10, .ref q11, .null, .int 0, .int 0, .int 0])), (q1, .inr (8, [.ref q2, .int 0, .int 0])), (q11, .inr (2, [.ref q12, .ref q13])), (q12, .inl (g.2.1 2, 5, .inr (.inl (fun _ => 0)))), (q13, .inl (g.2.1 2, 5, .inr (.inl (fun _ => 0))))]) X hin hW 0 ciX11 9 rfl (by decide) m_362 rfl rfl rfl rfl rfl (Nat.le_of_ble_eq_true rfl) rfl dX11_init_107 (fun H locs hW => ?_)
  refine lv_aload_n (pc := 110) hx hb dX11_init_110 rfl (lv_at hl 0 rfl) ?_
  refine r_new (fs := [.int 0, .int 0, .int 0, .null, .null, .null, .null, .null, .null, .null, .null, .null, .null, .null, .int 0, .null]) X hW ciX10 m_48 m_267 m_11 (by decide +kernel) ⟨Nat.le_of_ble_eq_true rfl, Nat.le_of_ble_eq_true rfl⟩ dX11_init_111 (fun q14 H hW => ?_)
  have hW : WD g A s _ _ [(h0, .inr (11, [.ref q1, .ref q3, .ref q4, .ref q5, .ref q6, .ref q7, .ref q8, .ref q9, .ref q10, .ref q11, .null, .int 0, .int 0, .int 0])), (q1, .inr (8, [.ref q2, .int 0, .int 0])), (q11, .inr (2, [.ref q12, .ref q13])), (q12, .inl (g.2.1 2, 5, .inr (.inl (fun _ => 0)))), (q13, .inl (g.2.1 2, 5, .inr (.inl (fun _ => 0)))), (q14, .inr (10, [.int 0, .int 0, .int 0, .null, .null, .null, .null, .null, .null, .null, .null, .null, .null, .null, .int 0, .null]))] := hW
  refine lv_dup (pc := 114) hx hb dX11_init_114 rfl ?_
  refine c_INv (pc := 115) (As := []) (rest := [.ref q14, .ref h0]) (wr := [(h0, .inr (11, [.ref q1, .ref q3, .ref q4, .ref q5, .ref q6, .ref q7, .ref q8, .ref q9, .ref q10, .ref q11, .null, .int 0, .int 0, .int 0])), (q1, .inr (8, [.ref q2, .int 0, .int 0])), (q11, .inr (2, [.ref q12, .ref q13])), (q12, .inl (g.2.1 2, 5, .inr (.inl (fun _ => 0)))), (q13, .inl (g.2.1 2, 5, .inr (.inl (fun _ => 0))))]) X hW (C_X10_init l g q14) vX11_77 [5] [0, 1, 2, 3, 4] rfl rfl rfl rfl rfl rfl hl.1 rfl (Nat.le_of_ble_eq_true rfl) ⟨Nat.le_of_ble_eq_true rfl, Nat.le_of_ble_eq_true rfl⟩ ⟨Nat.le_of_ble_eq_true rfl, Nat.le_of_ble_eq_true rfl⟩ dX11_init_115 (fun u9 H locs hq hW => ?_)
  obtain ⟨q15, q16, q17, q18, q19, q20, q21, q22, q23, q24, q25, q26, rfl⟩ := hq
  have hW : WD g A s _ _ [(h0, .inr (11, [.ref q1, .ref q3, .ref q4, .ref q5, .ref q6, .ref q7, .ref q8, .ref q9, .ref q10, .ref q11, .null, .int 0, .int 0, .int 0])), (q1, .inr (8, [.ref q2, .int 0, .int 0])), (q11, .inr (2, [.ref q12, .ref q13])), (q12, .inl (g.2.1 2, 5, .inr (.inl (fun _ => 0)))), (q13, .inl (g.2.1 2, 5, .inr (.inl (fun _ => 0)))), (q14, .inr (10, [.int 0, .int 0, .int 0, .ref q15, .ref q16, .ref q17, .ref q18, .ref q19, .ref q20, .ref q21, .ref q22, .ref q23, .ref q24, .ref q25, .int (-2), .ref q26])), (q15, .inl (g.2.1 1, 4, .inl (fun _ => 0))), (q16, .inl (g.2.1 1, 4, .inl (fun _ => 0))), (q17, .inl (g.2.1 1, 4, .inl (fun _ => 0)))] := hW
  refine r_put (ws' := [(h0, .inr (11, [.ref q1, .ref q3, .ref q4, .ref q5, .ref q6, .ref q7, .ref q8, .ref q9, .ref q10, .ref q11, .ref q14, .int 0, .int 0, .int 0])), (q1, .inr (8, [.ref q2, .int 0, .int 0])), (q11, .inr (2, [.ref q12, .ref q13])), (q12, .inl (g.2.1 2, 5, .inr (.inl (fun _ => 0)))), (q13, .inl (g.2.1 2, 5, .inr (.inl (fun _ => 0)))), (q14, .inr (10, [.int 0, .int 0, .int 0, .ref q15, .ref q16, .ref q17, .ref q18, .ref q19, .ref q20, .ref q21, .ref q22, .ref q23, .ref q24, .ref q25, .int (-2), .ref q26])), (q15, .inl (g.2.1 1, 4, .inl (fun _ => 0))), (q16, .inl (g.2.1 1, 4, .inl (fun _ => 0))), (q17, .inl (g.2.1 1, 4, .inl (fun _ => 0)))]) X hW 0 ciX11 10 rfl (by decide) m_363 rfl rfl rfl rfl (Nat.le_of_ble_eq_true rfl) rfl dX11_init_118 (fun H locs hW => ?_)
  exact e_v X hQ hr hW (u := [(h0, .inr (11, [.ref q1, .ref q3, .ref q4, .ref q5, .ref q6, .ref q7, .ref q8, .ref q9, .ref q10, .ref q11, .ref q14, .int 0, .int 0, .int 0])), (q1, .inr (8, [.ref q2, .int 0, .int 0])), (q11, .inr (2, [.ref q12, .ref q13])), (q12, .inl (g.2.1 2, 5, .inr (.inl (fun _ => 0)))), (q13, .inl (g.2.1 2, 5, .inr (.inl (fun _ => 0)))), (q14, .inr (10, [.int 0, .int 0, .int 0, .ref q15, .ref q16, .ref q17, .ref q18, .ref q19, .ref q20, .ref q21, .ref q22, .ref q23, .ref q24, .ref q25, .int (-2), .ref q26])), (q15, .inl (g.2.1 1, 4, .inl (fun _ => 0))), (q16, .inl (g.2.1 1, 4, .inl (fun _ => 0))), (q17, .inl (g.2.1 1, 4, .inl (fun _ => 0)))]) [0, 1, 2, 3, 4, 5, 6, 7, 8] rfl rfl (⟨q1, q3, q4, q5, q6, q7, q8, q9, q10, q11, q14, q2, q12, q13, q15, q16, q17, q18, q19, q20, q21, q22, q23, q24, q25, q26, rfl⟩) ⟨Nat.le_of_ble_eq_true rfl, Nat.le_of_ble_eq_true rfl⟩ dX11_init_121

set_option maxHeartbeats 4000000 in
set_option maxRecDepth 100000 in
theorem C_X12_init (l : Launch) (g : GG) (h0 : Nat) : MetV l g yX12_init cX12_init 1 none 1 46 594642 [.ref h0] [(h0, .inr (12, [.int 0, .null, .int 0, .int 0, .int 0, .int 0, .null, .null, .null, .null, .null, .null, .null, .null, .null, .null, .null, .null, .int 0, .int 0, .int 0, .null, .null, .null, .null, .null, .null, .int 0, .null, .null, .null, .null, .null, .null, .null, .null, .null, .int 0, .int 0, .int 0, .int 0, .int 0, .int 0, .int 0, .int 0, .int 0, .null, .null, .null, .null, .null, .null, .null, .null, .null, .null, .null, .null, .null, .null, .null, .null, .null, .null]))] (fun u => ∃ q1 q2 q3 q4 q5 q6 q7 q8 q9 q10 q11 q12 q13 q14 q15 q16 q17 q18 q19 q20 q21 q22 q23 q24 q25 q26 q27 q28 q29 q30 q31 q32 q33 q34 q35 q36 q37 q38 q39 q40 q41 q42 q43 q44 q45 q46 : Nat, u = [(h0, .inr (12, [.int 0, .ref q1, .int 0, .int 0, .int 0, .int 0, .ref q2, .ref q3, .ref q4, .ref q5, .ref q6, .ref q7, .ref q8, .ref q9, .ref q10, .ref q11, .ref q12, .ref q13, .int 0, .int (-1), .int (-1), .ref q14, .ref q15, .ref q16, .ref q17, .ref q18, .ref q19, .int 0, .ref q20, .ref q21, .ref q22, .ref q23, .ref q24, .ref q25, .ref q26, .ref q27, .ref q28, .int 0, .int 0, .int 0, .int 0, .int 0, .int 0, .int 0, .int 0, .int 0, .ref q29, .ref q30, .ref q31, .ref q32, .ref q33, .ref q34, .ref q35, .ref q36, .ref q37, .ref q38, .ref q39, .ref q40, .ref q41, .ref q42, .ref q43, .ref q44, .ref q45, .ref q46])), (q1, .inl (g.2.1 0, 400, .inl (fun _ => 0))), (q3, .inl (g.2.1 1, 11, .inl (fun _ => 0))), (q4, .inl (g.2.1 1, 11, .inl (fun _ => 0))), (q5, .inl (g.2.1 1, 44, .inl (fun _ => 0))), (q6, .inl (g.2.1 1, 44, .inl (fun _ => 0))), (q7, .inl (g.2.1 1, 44, .inl (fun _ => 0))), (q42, .inl (g.2.1 2, 16, .inr (.inl (fun _ => 0)))), (q43, .inl (g.2.1 2, 16, .inr (.inl (fun _ => 0))))]) := by
  refine MetV.of (own := RX12) rfl (by decide) (Nat.le_of_ble_eq_true rfl) ?_
  intro p e s m below meth c A ls args Q hQ X hr hin hW hl
  have hx := X.1
  have hb := X.2.1
  have hl : lv_has ls 1 [(0, .ref h0)] := hl
  refine lv_aload_n (pc := 0) hx hb dX12_init_0 rfl (lv_at hl 0 rfl) ?_
  refine W.objInit hx hb X.2.2.2.1 (X.2.2.2.2.1 _ m_1228) (X.2.2.2.2.1 _ m_28) (X.2.2.2.2.1 _ m_29) rfl (by rw [X.2.2.1]; exact hl.1) rfl dX12_init_1 (Nat.le_of_ble_eq_true rfl) (Nat.le_of_ble_eq_true rfl) ?_
  refine W.eq (g2 := F0 m 4 ls []) rfl ?_
  refine lv_aload_n (pc := 4) hx hb dX12_init_4 rfl (lv_at hl 0 rfl) ?_
  refine lv_sipush (v := 400) (pc := 5) hx hb dX12_init_5 (by decide) ?_
  refine r_newa (a0 := (400, .inl (fun _ => 0))) X hW .byte rfl m_1420 0 rfl (by intro C h; cases h) (fun _ => rfl) (by decide) (by decide) (Nat.le_of_ble_eq_true rfl) ⟨Nat.le_of_ble_eq_true rfl, Nat.le_of_ble_eq_true rfl⟩ dX12_init_8 (fun q1 H hW => ?_)
  have hW : WD g A s _ _ [(h0, .inr (12, [.int 0, .null, .int 0, .int 0, .int 0, .int 0, .null, .null, .null, .null, .null, .null, .null, .null, .null, .null, .null, .null, .int 0, .int 0, .int 0, .null, .null, .null, .null, .null, .null, .int 0, .null, .null, .null, .null, .null, .null, .null, .null, .null, .int 0, .int 0, .int 0, .int 0, .int 0, .int 0, .int 0, .int 0, .int 0, .null, .null, .null, .null, .null, .null, .null, .null, .null, .null, .null, .null, .null, .null, .null, .null, .null, .null])), (q1, .inl (g.2.1 0, 400, .inl (fun _ => 0)))] := hW
  refine r_putF (ws' := [(h0, .inr (12, [.int 0, .ref q1, .int 0, .int 0, .int 0, .int 0, .null, .null, .null, .null, .null, .null, .null, .null, .null, .null, .null, .null, .int 0, .int 0, .int 0, .null, .null, .null, .null, .null, .null, .int 0, .null, .null, .null, .null, .null, .null, .null, .null, .null, .int 0, .int 0, .int 0, .int 0, .int 0, .int 0, .int 0, .int 0, .int 0, .null, .null, .null, .null, .null, .null, .null, .null, .null, .null, .null, .null, .null, .null, .null, .null, .null, .null])), (q1, .inl (g.2.1 0, 400, .inl (fun _ => 0)))]) X hin hW 0 ciX12 1 rfl (by decide) m_1232 rfl rfl rfl rfl rfl (Nat.le_of_ble_eq_true rfl) rfl dX12_init_10 (fun H locs hW => ?_)
  refine lv_aload_n (pc := 13) hx hb dX12_init_13 rfl (lv_at hl 0 rfl) ?_
  refine lv_bipush (v := 11) (pc := 14) hx hb dX12_init_14 (by decide) ?_
  refine r_newa (a0 := (11, .inl (fun _ => 0))) X hW .int rfl m_47 1 rfl (by intro C h; cases h) (fun _ => rfl) (by decide) (by decide) (Nat.le_of_ble_eq_true rfl) ⟨Nat.le_of_ble_eq_true rfl, Nat.le_of_ble_eq_true rfl⟩ dX12_init_16 (fun q2 H hW => ?_)
  have hW : WD g A s _ _ [(h0, .inr (12, [.int 0, .ref q1, .int 0, .int 0, .int 0, .int 0, .null, .null, .null, .null, .null, .null, .null, .null, .null, .null, .null, .null, .int 0, .int 0, .int 0, .null, .null, .null, .null, .null, .null, .int 0, .null, .null, .null, .null, .null, .null, .null, .null, .null, .int 0, .int 0, .int 0, .int 0, .int 0, .int 0, .int 0, .int 0, .int 0, .null, .null, .null, .null, .null, .null, .null, .null, .null, .null, .null, .null, .null, .null, .null, .null, .null, .null])), (q1, .inl (g.2.1 0, 400, .inl (fun _ => 0)))] := hW.pick [0, 1] rfl rfl
  refine r_putF (ws' := [(h0, .inr (12, [.int 0, .ref q1, .int 0, .int 0, .int 0, .int 0, .ref q2, .null, .null, .null, .null, .null, .null, .null, .null, .null, .null, .null, .int 0, .int 0, .int 0, .null, .null, .null, .null, .null, .null, .int 0, .null, .null, .null, .null, .null, .null, .null, .null, .null, .int 0, .int 0, .int 0, .int 0, .int 0, .int 0, .int 0, .int 0, .int 0, .null, .null, .null, .null, .null, .null, .null, .null, .null, .null, .null, .null, .null, .null, .null, .null, .null, .null])), (q1, .inl (g.2.1 0, 400, .inl (fun _ => 0)))]) X hin hW 0 ciX12 6 rfl (by decide) m_1237 rfl rfl rfl rfl rfl (Nat.le_of_ble_eq_true rfl) rfl dX12_init_18 (fun H locs hW => ?_)
  refine lv_aload_n (pc := 21) hx hb dX12_init_21 rfl (lv_at hl 0 rfl) ?_
  refine lv_bipush (v := 11) (pc := 22) hx hb dX12_init_22 (by decide) ?_
  refine r_newa (a0 := (11, .inl (fun _ => 0))) X hW .int rfl m_47 1 rfl (by intro C h; cases h) (fun _ => rfl) (by decide) (by decide) (Nat.le_of_ble_eq_true rfl) ⟨Nat.le_of_ble_eq_true rfl, Nat.le_of_ble_eq_true rfl⟩ dX12_init_24 (fun q3 H hW => ?_)
  have hW : WD g A s _ _ [(h0, .inr (12, [.int 0, .ref q1, .int 0, .int 0, .int 0, .int 0, .ref q2, .null, .null, .null, .null, .null, .null, .null, .null, .null, .null, .null, .int 0, .int 0, .int 0, .null, .null, .null, .null, .null, .null, .int 0, .null, .null, .null, .null, .null, .null, .null, .null, .null, .int 0, .int 0, .int 0, .int 0, .int 0, .int 0, .int 0, .int 0, .int 0, .null, .null, .null, .null, .null, .null, .null, .null, .null, .null, .null, .null, .null, .null, .null, .null, .null, .null])), (q1, .inl (g.2.1 0, 400, .inl (fun _ => 0))), (q3, .inl (g.2.1 1, 11, .inl (fun _ => 0)))] := hW
  refine r_putF (ws' := [(h0, .inr (12, [.int 0, .ref q1, .int 0, .int 0, .int 0, .int 0, .ref q2, .ref q3, .null, .null, .null, .null, .null, .null, .null, .null, .null, .null, .int 0, .int 0, .int 0, .null, .null, .null, .null, .null, .null, .int 0, .null, .null, .null, .null, .null, .null, .null, .null, .null, .int 0, .int 0, .int 0, .int 0, .int 0, .int 0, .int 0, .int 0, .int 0, .null, .null, .null, .null, .null, .null, .null, .null, .null, .null, .null, .null, .null, .null, .null, .null, .null, .null])), (q1, .inl (g.2.1 0, 400, .inl (fun _ => 0))), (q3, .inl (g.2.1 1, 11, .inl (fun _ => 0)))]) X hin hW 0 ciX12 7 rfl (by decide) m_1238 rfl rfl rfl rfl rfl (Nat.le_of_ble_eq_true rfl) rfl dX12_init_26 (fun H locs hW => ?_)
  refine lv_aload_n (pc := 29) hx hb dX12_init_29 rfl (lv_at hl 0 rfl) ?_
  refine lv_bipush (v := 11) (pc := 30) hx hb dX12_init_30 (by decide) ?_
  refine r_newa (a0 := (11, .inl (fun _ => 0))) X hW .int rfl m_47 1 rfl (by intro C h; cases h) (fun _ => rfl) (by decide) (by decide) (Nat.le_of_ble_eq_true rfl) ⟨Nat.le_of_ble_eq_true rfl, Nat.le_of_ble_eq_true rfl⟩ dX12_init_32 (fun q4 H hW => ?_)
  have hW : WD g A s _ _ [(h0, .inr (12, [.int 0, .ref q1, .int 0, .int 0, .int 0, .int 0, .ref q2, .ref q3, .null, .null, .null, .null, .null, .null, .null, .null, .null, .null, .int 0, .int 0, .int 0, .null, .null, .null, .null, .null, .null, .int 0, .null, .null, .null, .null, .null, .null, .null, .null, .null, .int 0, .int 0, .int 0, .int 0, .int 0, .int 0, .int 0, .int 0, .int 0, .null, .null, .null, .null, .null, .null, .null, .null, .null, .null, .null, .null, .null, .null, .null, .null, .null, .null])), (q1, .inl (g.2.1 0, 400, .inl (fun _ => 0))), (q3, .inl (g.2.1 1, 11, .inl (fun _ => 0))), (q4, .inl (g.2.1 1, 11, .inl (fun _ => 0)))] := hW
  refine r_putF (ws' := [(h0, .inr (12, [.int 0, .ref q1, .int 0, .int 0, .int 0, .int 0, .ref q2, .ref q3, .ref q4, .null, .null, .null, .null, .null, .null, .null, .null, .null, .int 0, .int 0, .int 0, .null, .null, .null, .null, .null, .null, .int 0, .null, .null, .null, .null, .null, .null, .null, .null, .null, .int 0, .int 0, .int 0, .int 0, .int 0, .int 0, .int 0, .int 0, .int 0, .null, .null, .null, .null, .null, .null, .null, .null, .null, .null, .null, .null, .null, .null, .null, .null, .null, .null])), (q1, .inl (g.2.1 0, 400, .inl (fun _ => 0))), (q3, .inl (g.2.1 1, 11, .inl (fun _ => 0))), (q4, .inl (g.2.1 1, 11, .inl (fun _ => 0)))]) X hin hW 0 ciX12 8 rfl (by decide) m_1239 rfl rfl rfl rfl rfl (Nat.le_of_ble_eq_true rfl) rfl dX12_init_34 (fun H locs hW => ?_)
  refine lv_aload_n (pc := 37) hx hb dX12_init_37 rfl (lv_at hl 0 rfl) ?_
  refine lv_bipush (v := 44) (pc := 38) hx hb dX12_init_38 (by decide) ?_
  refine r_newa (a0 := (44, .inl (fun _ => 0))) X hW .int rfl m_47 1 rfl (by intro C h; cases h) (fun _ => rfl) (by decide) (by decide) (Nat.le_of_ble_eq_true rfl) ⟨Nat.le_of_ble_eq_true rfl, Nat.le_of_ble_eq_true rfl⟩ dX12_init_40 (fun q5 H hW => ?_)
  have hW : WD g A s _ _ [(h0, .inr (12, [.int 0, .ref q1, .int 0, .int 0, .int 0, .int 0, .ref q2, .ref q3, .ref q4, .null, .null, .null, .null, .null, .null, .null, .null, .null, .int 0, .int 0, .int 0, .null, .null, .null, .null, .null, .null, .int 0, .null, .null, .null, .null, .null, .null, .null, .null, .null, .int 0, .int 0, .int 0, .int 0, .int 0, .int 0, .int 0, .int 0, .int 0, .null, .null, .null, .null, .null, .null, .null, .null, .null, .null, .null, .null, .null, .null, .null, .null, .null, .null])), (q1, .inl (g.2.1 0, 400, .inl (fun _ => 0))), (q3, .inl (g.2.1 1, 11, .inl (fun _ => 0))), (q4, .inl (g.2.1 1, 11, .inl (fun _ => 0))), (q5, .inl (g.2.1 1, 44, .inl (fun _ => 0)))] := hW
  refine r_putF (ws' := [(h0, .inr (12, [.int 0, .ref q1, .int 0, .int 0, .int 0, .int 0, .ref q2, .ref q3, .ref q4, .ref q5, .null, .null, .null, .null, .null, .null, .null, .null, .int 0, .int 0, .int 0, .null, .null, .null, .null, .null, .null, .int 0, .null, .null, .null, .null, .null, .null, .null, .null, .null, .int 0, .int 0, .int 0, .int 0, .int 0, .int 0, .int 0, .int 0, .int 0, .null, .null, .null, .null, .null, .null, .null, .null, .null, .null, .null, .null, .null, .null, .null, .null, .null, .null])), (q1, .inl (g.2.1 0, 400, .inl (fun _ => 0))), (q3, .inl (g.2.1 1, 11, .inl (fun _ => 0))), (q4, .inl (g.2.1 1, 11, .inl (fun _ => 0))), (q5, .inl (g.2.1 1, 44, .inl (fun _ => 0)))]) X hin hW 0 ciX12 9 rfl (by decide) m_1240 rfl rfl rfl rfl rfl (Nat.le_of_ble_eq_true rfl) rfl dX12_init_42 (fun H locs hW => ?_)
  refine lv_aload_n (pc := 45) hx hb dX12_init_45 rfl (lv_at hl 0 rfl) ?_
  refine lv_bipush (v := 44) (pc := 46) hx hb dX12_init_46 (by decide) ?_
  refine r_newa (a0 := (44, .inl (fun _ => 0))) X hW .int rfl m_47 1 rfl (by intro C h; cases h) (fun _ => rfl) (by decide) (by decide) (Nat.le_of_ble_eq_true rfl) ⟨Nat.le_of_ble_eq_true rfl, Nat.le_of_ble_eq_true rfl⟩ dX12_init_48 (fun q6 H hW => ?_)
  have hW : WD g A s _ _ [(h0, .inr (12, [.int 0, .ref q1, .int 0, .int 0, .int 0, .int 0, .ref q2, .ref q3, .ref q4, .ref q5, .null, .null, .null, .null, .null, .null, .null, .null, .int 0, .int 0, .int 0, .null, .null, .null, .null, .null, .null, .int 0, .null, .null, .null, .null, .null, .null, .null, .null, .null, .int 0, .int 0, .int 0, .int 0, .int 0, .int 0, .int 0, .int 0, .int 0, .null, .null, .null, .null, .null, .null, .null, .null, .null, .null, .null, .null, .null, .null, .null, .null, .null, .null])), (q1, .inl (g.2.1 0, 400, .inl (fun _ => 0))), (q3, .inl (g.2.1 1, 11, .inl (fun _ => 0))), (q4, .inl (g.2.1 1, 11, .inl (fun _ => 0))), (q5, .inl (g.2.1 1, 44, .inl (fun _ => 0))), (q6, .inl (g.2.1 1, 44, .inl (fun _ => 0)))] := hW
  refine r_putF (ws' := [(h0, .inr (12, [.int 0, .ref q1, .int 0, .int 0, .int 0, .int 0, .ref q2, .ref q3, .ref q4, .ref q5, .ref q6, .null, .null, .null, .null, .null, .null, .null, .int 0, .int 0, .int 0, .null, .null, .null, .null, .null, .null, .int 0, .null, .null, .null, .null, .null, .null, .null, .null, .null, .int 0, .int 0, .int 0, .int 0, .int 0, .int 0, .int 0, .int 0, .int 0, .null, .null, .null, .null, .null, .null, .null, .null, .null, .null, .null, .null, .null, .null, .null, .null, .null, .null])), (q1, .inl (g.2.1 0, 400, .inl (fun _ => 0))), (q3, .inl (g.2.1 1, 11, .inl (fun _ => 0))), (q4, .inl (g.2.1 1, 11, .inl (fun _ => 0))), (q5, .inl (g.2.1 1, 44, .inl (fun _ => 0))), (q6, .inl (g.2.1 1, 44, .inl (fun _ => 0)))]) X hin hW 0 ciX12 10 rfl (by decide) m_1241 rfl rfl rfl rfl rfl (Nat.le_of_ble_eq_true rfl) rfl dX12_init_50 (fun H locs hW => ?_)
  refine lv_aload_n (pc := 53) hx hb dX12_init_53 rfl (lv_at hl 0 rfl) ?_
  refine lv_bipush (v := 44) (pc := 54) hx hb dX12_init_54 (by decide) ?_
  refine r_newa (a0 := (44, .inl (fun _ => 0))) X hW .int rfl m_47 1 rfl (by intro C h; cases h) (fun _ => rfl) (by decide) (by decide) (Nat.le_of_ble_eq_true rfl) ⟨Nat.le_of_ble_eq_true rfl, Nat.le_of_ble_eq_true rfl⟩ dX12_init_56 (fun q7 H hW => ?_)
  have hW : WD g A s _ _ [(h0, .inr (12, [.int 0, .ref q1, .int 0, .int 0, .int 0, .int 0, .ref q2, .ref q3, .ref q4, .ref q5, .ref q6, .null, .null, .null, .null, .null, .null, .null, .int 0, .int 0, .int 0, .null, .null, .null, .null, .null, .null, .int 0, .null, .null, .null, .null, .null, .null, .null, .null, .null, .int 0, .int 0, .int 0, .int 0, .int 0, .int 0, .int 0, .int 0, .int 0, .null, .null, .null, .null, .null, .null, .null, .null, .null, .null, .null, .null, .null, .null, .null, .null, .null, .null])), (q1, .inl (g.2.1 0, 400, .inl (fun _ => 0))), (q3, .inl (g.2.1 1, 11, .inl (fun _ => 0))), (q4, .inl (g.2.1 1, 11, .inl (fun _ => 0))), (q5, .inl (g.2.1 1, 44, .inl (fun _ => 0))), (q6, .inl (g.2.1 1, 44, .inl (fun _ => 0))), (q7, .inl (g.2.1 1, 44, .inl (fun _ => 0)))] := hW
  refine r_putF (ws' := [(h0, .inr (12, [.int 0, .ref q1, .int 0, .int 0, .int 0, .int 0, .ref q2, .ref q3, .ref q4, .ref q5, .ref q6, .ref q7, .null, .null, .null, .null, .null, .null, .int 0, .int 0, .int 0, .null, .null, .null, .null, .null, .null, .int 0, .null, .null, .null, .null, .null, .null, .null, .null, .null, .int 0, .int 0, .int 0, .int 0, .int 0, .int 0, .int 0, .int 0, .int 0, .null, .null, .null, .null, .null, .null, .null, .null, .null, .null, .null, .null, .null, .null, .null, .null, .null, .null])), (q1, .inl (g.2.1 0, 400, .inl (fun _ => 0))), (q3, .inl (g.2.1 1, 11, .inl (fun _ => 0))), (q4, .inl (g.2.1 1, 11, .inl (fun _ => 0))), (q5, .inl (g.2.1 1, 44, .inl (fun _ => 0))), (q6, .inl (g.2.1 1, 44, .inl (fun _ => 0))), (q7, .inl (g.2.1 1, 44, .inl (fun _ => 0)))]) X hin hW 0 ciX12 11 rfl (by decide) m_1242 rfl rfl rfl rfl rfl (Nat.le_of_ble_eq_true rfl) rfl dX12_init_58 (fun H locs hW => ?_)
  refine lv_aload_n (pc := 61) hx hb dX12_init_61 rfl (lv_at hl 0 rfl) ?_
  refine lv_sipush (v := 132) (pc := 62) hx hb dX12_init_62 (by decide) ?_
  refine r_newa (a0 := (132, .inl (fun _ => 0))) X hW .int rfl m_47 1 rfl (by intro C h; cases h) (fun _ => rfl) (by decide) (by decide) (Nat.le_of_ble_eq_true rfl) ⟨Nat.le_of_ble_eq_true rfl, Nat.le_of_ble_eq_true rfl⟩ dX12_init_65 (fun q8 H hW => ?_)
  have hW : WD g A s _ _ [(h0, .inr (12, [.int 0, .ref q1, .int 0, .int 0, .int 0, .int 0, .ref q2, .ref q3, .ref q4, .ref q5, .ref q6, .ref q7, .null, .null, .null, .null, .null, .null, .int 0, .int 0, .int 0, .null, .null, .null, .null, .null, .null, .int 0, .null, .null, .null, .null, .null, .null, .null, .null, .null, .int 0, .int 0, .int 0, .int 0, .int 0, .int 0, .int 0, .int 0, .int 0, .null, .null, .null, .null, .null, .null, .null, .null, .null, .null, .null, .null, .null, .null, .null, .null, .null, .null])), (q1, .inl (g.2.1 0, 400, .inl (fun _ => 0))), (q3, .inl (g.2.1 1, 11, .inl (fun _ => 0))), (q4, .inl (g.2.1 1, 11, .inl (fun _ => 0))), (q5, .inl (g.2.1 1, 44, .inl (fun _ => 0))), (q6, .inl (g.2.1 1, 44, .inl (fun _ => 0))), (q7, .inl (g.2.1 1, 44, .inl (fun _ => 0)))] := hW.pick [0, 1, 2, 3, 4, 5, 6] rfl rfl
  refine r_putF (ws' := [(h0, .inr (12, [.int 0, .ref q1, .int 0, .int 0, .int 0, .int 0, .ref q2, .ref q3, .ref q4, .ref q5, .ref q6, .ref q7, .ref q8, .null, .null, .null, .null, .null, .int 0, .int 0, .int 0, .null, .null, .null, .null, .null, .null, .int 0, .null, .null, .null, .null, .null, .null, .null, .null, .null, .int 0, .int 0, .int 0, .int 0, .int 0, .int 0, .int 0, .int 0, .int 0, .null, .null, .null, .null, .null, .null, .null, .null, .null, .null, .null, .null, .null, .null, .null, .null, .null, .null])), (q1, .inl (g.2.1 0, 400, .inl (fun _ => 0))), (q3, .inl (g.2.1 1, 11, .inl (fun _ => 0))), (q4, .inl (g.2.1 1, 11, .inl (fun _ => 0))), (q5, .inl (g.2.1 1, 44, .inl (fun _ => 0))), (q6, .inl (g.2.1 1, 44, .inl (fun _ => 0))), (q7, .inl (g.2.1 1, 44, .inl (fun _ => 0)))]) X hin hW 0 ciX12 12 rfl (by decide) m_1243 rfl rfl rfl rfl rfl (Nat.le_of_ble_eq_true rfl) rfl dX12_init_67 (fun H locs hW => ?_)
  refine lv_aload_n (pc := 70) hx hb dX12_init_70 rfl (lv_at hl 0 rfl) ?_
  refine lv_sipush (v := 132) (pc := 71) hx hb dX12_init_71 (by decide) ?_
  refine r_newa (a0 := (132, .inl (fun _ => 0))) X hW .int rfl m_47 1 rfl (by intro C h; cases h) (fun _ => rfl) (by decide) (by decide) (Nat.le_of_ble_eq_true rfl) ⟨Nat.le_of_ble_eq_true rfl, Nat.le_of_ble_eq_true rfl⟩ dX12_init_74 (fun q9 H hW => ?_)
  have hW : WD g A s _ _ [(h0, .inr (12, [.int 0, .ref q1, .int 0, .int 0, .int 0, .int 0, .ref q2, .ref q3, .ref q4, .ref q5, .ref q6, .ref q7, .ref q8, .null, .null, .null, .null, .null, .int 0, .int 0, .int 0, .null, .null, .null, .null, .null, .null, .int 0, .null, .null, .null, .null, .null, .null, .null, .null, .null, .int 0, .int 0, .int 0, .int 0, .int 0, .int 0, .int 0, .int 0, .int 0, .null, .null, .null, .null, .null, .null, .null, .null, .null, .null, .null, .null, .null, .null, .null, .null, .null, .null])), (q1, .inl (g.2.1 0, 400, .inl (fun _ => 0))), (q3, .inl (g.2.1 1, 11, .inl (fun _ => 0))), (q4, .inl (g.2.1 1, 11, .inl (fun _ => 0))), (q5, .inl (g.2.1 1, 44, .inl (fun _ => 0))), (q6, .inl (g.2.1 1, 44, .inl (fun _ => 0))), (q7, .inl (g.2.1 1, 44, .inl (fun _ => 0)))] := hW.pick [0, 1, 2, 3, 4, 5, 6] rfl rfl
  refine r_putF (ws' := [(h0, .inr (12, [.int 0, .ref q1, .int 0, .int 0, .int 0, .int 0, .ref q2, .ref q3, .ref q4, .ref q5, .ref q6, .ref q7, .ref q8, .ref q9, .null, .null, .null, .null, .int 0, .int 0, .int 0, .null, .null, .null, .null, .null, .null, .int 0, .null, .null, .null, .null, .null, .null, .null, .null, .null, .int 0, .int 0, .int 0, .int 0, .int 0, .int 0, .int 0, .int 0, .int 0, .null, .null, .null, .null, .null, .null, .null, .null, .null, .null, .null, .null, .null, .null, .null, .null, .null, .null])), (q1, .inl (g.2.1 0, 400, .inl (fun _ => 0))), (q3, .inl (g.2.1 1, 11, .inl (fun _ => 0))), (q4, .inl (g.2.1 1, 11, .inl (fun _ => 0))), (q5, .inl (g.2.1 1, 44, .inl (fun _ => 0))), (q6, .inl (g.2.1 1, 44, .inl (fun _ => 0))), (q7, .inl (g.2.1 1, 44, .inl (fun _ => 0)))]) X hin hW 0 ciX12 13 rfl (by decide) m_1244 rfl rfl rfl rfl rfl (Nat.le_of_ble_eq_true rfl) rfl dX12_init_76 (fun H locs hW => ?_)
  refine lv_aload_n (pc := 79) hx hb dX12_init_79 rfl (lv_at hl 0 rfl) ?_
  refine lv_sipush (v := 132) (pc := 80) hx hb dX12_init_80 (by decide) ?_
  refine r_newa (a0 := (132, .inl (fun _ => 0))) X hW .int rfl m_47 1 rfl (by intro C h; cases h) (fun _ => rfl) (by decide) (by decide) (Nat.le_of_ble_eq_true rfl) ⟨Nat.le_of_ble_eq_true rfl, Nat.le_of_ble_eq_true rfl⟩ dX12_init_83 (fun q10 H hW => ?_)
  have hW : WD g A s _ _ [(h0, .inr (12, [.int 0, .ref q1, .int 0, .int 0, .int 0, .int 0, .ref q2, .ref q3, .ref q4, .ref q5, .ref q6, .ref q7, .ref q8, .ref q9, .null, .null, .null, .null, .int 0, .int 0, .int 0, .null, .null, .null, .null, .null, .null, .int 0, .null, .null, .null, .null, .null, .null, .null, .null, .null, .int 0, .int 0, .int 0, .int 0, .int 0, .int 0, .int 0, .int 0, .int 0, .null, .null, .null, .null, .null, .null, .null, .null, .null, .null, .null, .null, .null, .null, .null, .null, .null, .null])), (q1, .inl (g.2.1 0, 400, .inl (fun _ => 0))), (q3, .inl (g.2.1 1, 11, .inl (fun _ => 0))), (q4, .inl (g.2.1 1, 11, .inl (fun _ => 0))), (q5, .inl (g.2.1 1, 44, .inl (fun _ => 0))), (q6, .inl (g.2.1 1, 44, .inl (fun _ => 0))), (q7, .inl (g.2.1 1, 44, .inl (fun _ => 0)))] := hW.pick [0, 1, 2, 3, 4, 5, 6] rfl rfl
  refine r_putF (ws' := [(h0, .inr (12, [.int 0, .ref q1, .int 0, .int 0, .int 0, .int 0, .ref q2, .ref q3, .ref q4, .ref q5, .ref q6, .ref q7, .ref q8, .ref q9, .ref q10, .null, .null, .null, .int 0, .int 0, .int 0, .null, .null, .null, .null, .null, .null, .int 0, .null, .null, .null, .null, .null, .null, .null, .null, .null, .int 0, .int 0, .int 0, .int 0, .int 0, .int 0, .int 0, .int 0, .int 0, .null, .null, .null, .null, .null, .null, .null, .null, .null, .null, .null, .null, .null, .null, .null, .null, .null, .null])), (q1, .inl (g.2.1 0, 400, .inl (fun _ => 0))), (q3, .inl (g.2.1 1, 11, .inl (fun _ => 0))), (q4, .inl (g.2.1 1, 11, .inl (fun _ => 0))), (q5, .inl (g.2.1 1, 44, .inl (fun _ => 0))), (q6, .inl (g.2.1 1, 44, .inl (fun _ => 0))), (q7, .inl (g.2.1 1, 44, .inl (fun _ => 0)))]) X hin hW 0 ciX12 14 rfl (by decide) m_1245 rfl rfl rfl rfl rfl (Nat.le_of_ble_eq_true rfl) rfl dX12_init_85 (fun H locs hW => ?_)
  refine lv_aload_n (pc := 88) hx hb dX12_init_88 rfl (lv_at hl 0 rfl) ?_
  refine lv_sipush (v := 132) (pc := 89) hx hb dX12_init_89 (by decide) ?_
  refine r_newa (a0 := (132, .inl (fun _ => 0))) X hW .int rfl m_47 1 rfl (by intro C h; cases h) (fun _ => rfl) (by decide) (by decide) (Nat.le_of_ble_eq_true rfl) ⟨Nat.le_of_ble_eq_true rfl, Nat.le_of_ble_eq_true rfl⟩ dX12_init_92 (fun q11 H hW => ?_)
  have hW : WD g A s _ _ [(h0, .inr (12, [.int 0, .ref q1, .int 0, .int 0, .int 0, .int 0, .ref q2, .ref q3, .ref q4, .ref q5, .ref q6, .ref q7, .ref q8, .ref q9, .ref q10, .null, .null, .null, .int 0, .int 0, .int 0, .null, .null, .null, .null, .null, .null, .int 0, .null, .null, .null, .null, .null, .null, .null, .null, .null, .int 0, .int 0, .int 0, .int 0, .int 0, .int 0, .int 0, .int 0, .int 0, .null, .null, .null, .null, .null, .null, .null, .null, .null, .null, .null, .null, .null, .null, .null, .null, .null, .null])), (q1, .inl (g.2.1 0, 400, .inl (fun _ => 0))), (q3, .inl (g.2.1 1, 11, .inl (fun _ => 0))), (q4, .inl (g.2.1 1, 11, .inl (fun _ => 0))), (q5, .inl (g.2.1 1, 44, .inl (fun _ => 0))), (q6, .inl (g.2.1 1, 44, .inl (fun _ => 0))), (q7, .inl (g.2.1 1, 44, .inl (fun _ => 0)))] := hW.pick [0, 1, 2, 3, 4, 5, 6] rfl rfl
  refine r_putF (ws' := [(h0, .inr (12, [.int 0, .ref q1, .int 0, .int 0, .int 0, .int 0, .ref q2, .ref q3, .ref q4, .ref q5, .ref q6, .ref q7, .ref q8, .ref q9, .ref q10, .ref q11, .null, .null, .int 0, .int 0, .int 0, .null, .null, .null, .null, .null, .null, .int 0, .null, .null, .null, .null, .null, .null, .null, .null, .null, .int 0, .int 0, .int 0, .int 0, .int 0, .int 0, .int 0, .int 0, .int 0, .null, .null, .null, .null, .null, .null, .null, .null, .null, .null, .null, .null, .null, .null, .null, .null, .null, .null])), (q1, .inl (g.2.1 0, 400, .inl (fun _ => 0))), (q3, .inl (g.2.1 1, 11, .inl (fun _ => 0))), (q4, .inl (g.2.1 1, 11, .inl (fun _ => 0))), (q5, .inl (g.2.1 1, 44, .inl (fun _ => 0))), (q6, .inl (g.2.1 1, 44, .inl (fun _ => 0))), (q7, .inl (g.2.1 1, 44, .inl (fun _ => 0)))]) X hin hW 0 ciX12 15 rfl (by decide) m_1246 rfl rfl rfl rfl rfl (Nat.le_of_ble_eq_true rfl) rfl dX12_init_94 (fun H locs hW => ?_)
  refine lv_aload_n (pc := 97) hx hb dX12_init_97 rfl (lv_at hl 0 rfl) ?_
  refine lv_sipush (v := 132) (pc := 98) hx hb dX12_init_98 (by decide) ?_
  refine r_newa (a0 := (132, .inl (fun _ => 0))) X hW .int rfl m_47 1 rfl (by intro C h; cases h) (fun _ => rfl) (by decide) (by decide) (Nat.le_of_ble_eq_true rfl) ⟨Nat.le_of_ble_eq_true rfl, Nat.le_of_ble_eq_true rfl⟩ dX12_init_101 (fun q12 H hW => ?_)
  have hW : WD g A s _ _ [(h0, .inr (12, [.int 0, .ref q1, .int 0, .int 0, .int 0, .int 0, .ref q2, .ref q3, .ref q4, .ref q5, .ref q6, .ref q7, .ref q8, .ref q9, .ref q10, .ref q11, .null, .null, .int 0, .int 0, .int 0, .null, .null, .null, .null, .null, .null, .int 0, .null, .null, .null, .null, .null, .null, .null, .null, .null, .int 0, .int 0, .int 0, .int 0, .int 0, .int 0, .int 0, .int 0, .int 0, .null, .null, .null, .null, .null, .null, .null, .null, .null, .null, .null, .null, .null, .null, .null, .null, .null, .null])), (q1, .inl (g.2.1 0, 400, .inl (fun _ => 0))), (q3, .inl (g.2.1 1, 11, .inl (fun _ => 0))), (q4, .inl (g.2.1 1, 11, .inl (fun _ => 0))), (q5, .inl (g.2.1 1, 44, .inl (fun _ => 0))), (q6, .inl (g.2.1 1, 44, .inl (fun _ => 0))), (q7, .inl (g.2.1 1, 44, .inl (fun _ => 0)))] := hW.pick [0, 1, 2, 3, 4, 5, 6] rfl rfl
  refine r_putF (ws' := [(h0, .inr (12, [.int 0, .ref q1, .int 0, .int 0, .int 0, .int 0, .ref q2, .ref q3, .ref q4, .ref q5, .ref q6, .ref q7, .ref q8, .ref q9, .ref q10, .ref q11, .ref q12, .null, .int 0, .int 0, .int 0, .null, .null, .null, .null, .null, .null, .int 0, .null, .null, .null, .null, .null, .null, .null, .null, .null, .int 0, .int 0, .int 0, .int 0, .int 0, .int 0, .int 0, .int 0, .int 0, .null, .null, .null, .null, .null, .null, .null, .null, .null, .null, .null, .null, .null, .null, .null, .null, .null, .null])), (q1, .inl (g.2.1 0, 400, .inl (fun _ => 0))), (q3, .inl (g.2.1 1, 11, .inl (fun _ => 0))), (q4, .inl (g.2.1 1, 11, .inl (fun _ => 0))), (q5, .inl (g.2.1 1, 44, .inl (fun _ => 0))), (q6, .inl (g.2.1 1, 44, .inl (fun _ => 0))), (q7, .inl (g.2.1 1, 44, .inl (fun _ => 0)))]) X hin hW 0 ciX12 16 rfl (by decide) m_1247 rfl rfl rfl rfl rfl (Nat.le_of_ble_eq_true rfl) rfl dX12_init_103 (fun H locs hW => ?_)
  refine lv_aload_n (pc := 106) hx hb dX12_init_106 rfl (lv_at hl 0 rfl) ?_
  refine lv_sipush (v := 132) (pc := 107) hx hb dX12_init_107 (by decide) ?_
  refine r_newa (a0 := (132, .inl (fun _ => 0))) X hW .boolean rfl m_109 3 rfl (by intro C h; cases h) (fun _ => rfl) (by decide) (by decide) (Nat.le_of_ble_eq_true rfl) ⟨Nat.le_of_ble_eq_true rfl, Nat.le_of_ble_eq_true rfl⟩ dX12_init_110 (fun q13 H hW => ?_)
  have hW : WD g A s _ _ [(h0, .inr (12, [.int 0, .ref q1, .int 0, .int 0, .int 0, .int 0, .ref q2, .ref q3, .ref q4, .ref q5, .ref q6, .ref q7, .ref q8, .ref q9, .ref q10, .ref q11, .ref q12, .null, .int 0, .int 0, .int 0, .null, .null, .null, .null, .null, .null, .int 0, .null, .null, .null, .null, .null, .null, .null, .null, .null, .int 0, .int 0, .int 0, .int 0, .int 0, .int 0, .int 0, .int 0, .int 0, .null, .null, .null, .null, .null, .null, .null, .null, .null, .null, .null, .null, .null, .null, .null, .null, .null, .null])), (q1, .inl (g.2.1 0, 400, .inl (fun _ => 0))), (q3, .inl (g.2.1 1, 11, .inl (fun _ => 0))), (q4, .inl (g.2.1 1, 11, .inl (fun _ => 0))), (q5, .inl (g.2.1 1, 44, .inl (fun _ => 0))), (q6, .inl (g.2.1 1, 44, .inl (fun _ => 0))), (q7, .inl (g.2.1 1, 44, .inl (fun _ => 0)))] := hW.pick [0, 1, 2, 3, 4, 5, 6] rfl rfl
  refine r_putF (ws' := [(h0, .inr (12, [.int 0, .ref q1, .int 0, .int 0, .int 0, .int 0, .ref q2, .ref q3, .ref q4, .ref q5, .ref q6, .ref q7, .ref q8, .ref q9, .ref q10, .ref q11, .ref q12, .ref q13, .int 0, .int 0, .int 0, .null, .null, .null, .null, .null, .null, .int 0, .null, .null, .null, .null, .null, .null, .null, .null, .null, .int 0, .int 0, .int 0, .int 0, .int 0, .int 0, .int 0, .int 0, .int 0, .null, .null, .null, .null, .null, .null, .null, .null, .null, .null, .null, .null, .null, .null, .null, .null, .null, .null])), (q1, .inl (g.2.1 0, 400, .inl (fun _ => 0))), (q3, .inl (g.2.1 1, 11, .inl (fun _ => 0))), (q4, .inl (g.2.1 1, 11, .inl (fun _ => 0))), (q5, .inl (g.2.1 1, 44, .inl (fun _ => 0))), (q6, .inl (g.2.1 1, 44, .inl (fun _ => 0))), (q7, .inl (g.2.1 1, 44, .inl (fun _ => 0)))]) X hin hW 0 ciX12 17 rfl (by decide) m_1248 rfl rfl rfl rfl rfl (Nat.le_of_ble_eq_true rfl) rfl dX12_init_112 (fun H locs hW => ?_)
  refine lv_aload_n (pc := 115) hx hb dX12_init_115 rfl (lv_at hl 0 rfl) ?_
  refine lv_iconst (v := (-1)) (pc := 116) hx hb dX12_init_116 (by decide) ?_
  refine r_put (ws' := [(h0, .inr (12, [.int 0, .ref q1, .int 0, .int 0, .int 0, .int 0, .ref q2, .ref q3, .ref q4, .ref q5, .ref q6, .ref q7, .ref q8, .ref q9, .ref q10, .ref q11, .ref q12, .ref q13, .int 0, .int (-1), .int 0, .null, .null, .null, .null, .null, .null, .int 0, .null, .null, .null, .null, .null, .null, .null, .null, .null, .int 0, .int 0, .int 0, .int 0, .int 0, .int 0, .int 0, .int 0, .int 0, .null, .null, .null, .null, .null, .null, .null, .null, .null, .null, .null, .null, .null, .null, .null, .null, .null, .null])), (q1, .inl (g.2.1 0, 400, .inl (fun _ => 0))), (q3, .inl (g.2.1 1, 11, .inl (fun _ => 0))), (q4, .inl (g.2.1 1, 11, .inl (fun _ => 0))), (q5, .inl (g.2.1 1, 44, .inl (fun _ => 0))), (q6, .inl (g.2.1 1, 44, .inl (fun _ => 0))), (q7, .inl (g.2.1 1, 44, .inl (fun _ => 0)))]) X hW 0 ciX12 19 rfl (by decide) m_1250 rfl rfl rfl rfl (Nat.le_of_ble_eq_true rfl) rfl dX12_init_117 (fun H locs hW => ?_)
  refine lv_aload_n (pc := 120) hx hb dX12_init_120 rfl (lv_at hl 0 rfl) ?_
  refine lv_iconst (v := (-1)) (pc := 121) hx hb dX12_init_121 (by decide) ?_
  refine r_put (ws' := [(h0, .inr (12, [.int 0, .ref q1, .int 0, .int 0, .int 0, .int 0, .ref q2, .ref q3, .ref q4, .ref q5, .ref q6, .ref q7, .ref q8, .ref q9, .ref q10, .ref q11, .ref q12, .ref q13, .int 0, .int (-1), .int (-1), .null, .null, .null, .null, .null, .null, .int 0, .null, .null, .null, .null, .null, .null, .null, .null, .null, .int 0, .int 0, .int 0, .int 0, .int 0, .int 0, .int 0, .int 0, .int 0, .null, .null, .null, .null, .null, .null, .null, .null, .null, .null, .null, .null, .null, .null, .null, .null, .null, .null])), (q1, .inl (g.2.1 0, 400, .inl (fun _ => 0))), (q3, .inl (g.2.1 1, 11, .inl (fun _ => 0))), (q4, .inl (g.2.1 1, 11, .inl (fun _ => 0))), (q5, .inl (g.2.1 1, 44, .inl (fun _ => 0))), (q6, .inl (g.2.1 1, 44, .inl (fun _ => 0))), (q7, .inl (g.2.1 1, 44, .inl (fun _ => 0)))]) X hW 0 ciX12 20 rfl (by decide) m_1251 rfl rfl rfl rfl (Nat.le_of_ble_eq_true rfl) rfl dX12_init_122 (fun H locs hW => ?_)
  refine lv_aload_n (pc := 125) hx hb dX12_init_125 rfl (lv_at hl 0 rfl) ?_
  refine lv_bipush (v := 12) (pc := 126) hx hb dX12_init_126 (by decide) ?_
  refine r_newa (a0 := (12, .inl (fun _ => 0))) X hW .int rfl m_47 1 rfl (by intro C h; cases h) (fun _ => rfl) (by decide) (by decide) (Nat.le_of_ble_eq_true rfl) ⟨Nat.le_of_ble_eq_true rfl, Nat.le_of_ble_eq_true rfl⟩ dX12_init_128 (fun q14 H hW => ?_)
  have hW : WD g A s _ _ [(h0, .inr (12, [.int 0, .ref q1, .int 0, .int 0, .int 0, .int 0, .ref q2, .ref q3, .ref q4, .ref q5, .ref q6, .ref q7, .ref q8, .ref q9, .ref q10, .ref q11, .ref q12, .ref q13, .int 0, .int (-1), .int (-1), .null, .null, .null, .null, .null, .null, .int 0, .null, .null, .null, .null, .null, .null, .null, .null, .null, .int 0, .int 0, .int 0, .int 0, .int 0, .int 0, .int 0, .int 0, .int 0, .null, .null, .null, .null, .null, .null, .null, .null, .null, .null, .null, .null, .null, .null, .null, .null, .null, .null])), (q1, .inl (g.2.1 0, 400, .inl (fun _ => 0))), (q3, .inl (g.2.1 1, 11, .inl (fun _ => 0))), (q4, .inl (g.2.1 1, 11, .inl (fun _ => 0))), (q5, .inl (g.2.1 1, 44, .inl (fun _ => 0))), (q6, .inl (g.2.1 1, 44, .inl (fun _ => 0))), (q7, .inl (g.2.1 1, 44, .inl (fun _ => 0)))] := hW.pick [0, 1, 2, 3, 4, 5, 6] rfl rfl
  refine r_putF (ws' := [(h0, .inr (12, [.int 0, .ref q1, .int 0, .int 0, .int 0, .int 0, .ref q2, .ref q3, .ref q4, .ref q5, .ref q6, .ref q7, .ref q8, .ref q9, .ref q10, .ref q11, .ref q12, .ref q13, .int 0, .int (-1), .int (-1), .ref q14, .null, .null, .null, .null, .null, .int 0, .null, .null, .null, .null, .null, .null, .null, .null, .null, .int 0, .int 0, .int 0, .int 0, .int 0, .int 0, .int 0, .int 0, .int 0, .null, .null, .null, .null, .null, .null, .null, .null, .null, .null, .null, .null, .null, .null, .null, .null, .null, .null])), (q1, .inl (g.2.1 0, 400, .inl (fun _ => 0))), (q3, .inl (g.2.1 1, 11, .inl (fun _ => 0))), (q4, .inl (g.2.1 1, 11, .inl (fun _ => 0))), (q5, .inl (g.2.1 1, 44, .inl (fun _ => 0))), (q6, .inl (g.2.1 1, 44, .inl (fun _ => 0))), (q7, .inl (g.2.1 1, 44, .inl (fun _ => 0)))]) X hin hW 0 ciX12 21 rfl (by decide) m_1252 rfl rfl rfl rfl rfl (Nat.le_of_ble_eq_true rfl) rfl dX12_init_130 (fun H locs hW => ?_)
  refine lv_aload_n (pc := 133) hx hb dX12_init_133 rfl (lv_at hl 0 rfl) ?_
  refine lv_bipush (v := 12) (pc := 134) hx hb dX12_init_134 (by decide) ?_
  refine r_newa (a0 := (12, .inl (fun _ => 0))) X hW .int rfl m_47 1 rfl (by intro C h; cases h) (fun _ => rfl) (by decide) (by decide) (Nat.le_of_ble_eq_true rfl) ⟨Nat.le_of_ble_eq_true rfl, Nat.le_of_ble_eq_true rfl⟩ dX12_init_136 (fun q15 H hW => ?_)
  have hW : WD g A s _ _ [(h0, .inr (12, [.int 0, .ref q1, .int 0, .int 0, .int 0, .int 0, .ref q2, .ref q3, .ref q4, .ref q5, .ref q6, .ref q7, .ref q8, .ref q9, .ref q10, .ref q11, .ref q12, .ref q13, .int 0, .int (-1), .int (-1), .ref q14, .null, .null, .null, .null, .null, .int 0, .null, .null, .null, .null, .null, .null, .null, .null, .null, .int 0, .int 0, .int 0, .int 0, .int 0, .int 0, .int 0, .int 0, .int 0, .null, .null, .null, .null, .null, .null, .null, .null, .null, .null, .null, .null, .null, .null, .null, .null, .null, .null])), (q1, .inl (g.2.1 0, 400, .inl (fun _ => 0))), (q3, .inl (g.2.1 1, 11, .inl (fun _ => 0))), (q4, .inl (g.2.1 1, 11, .inl (fun _ => 0))), (q5, .inl (g.2.1 1, 44, .inl (fun _ => 0))), (q6, .inl (g.2.1 1, 44, .inl (fun _ => 0))), (q7, .inl (g.2.1 1, 44, .inl (fun _ => 0)))] := hW.pick [0, 1, 2, 3, 4, 5, 6] rfl rfl
  refine r_putF (ws' := [(h0, .inr (12, [.int 0, .ref q1, .int 0, .int 0, .int 0, .int 0, .ref q2, .ref q3, .ref q4, .ref q5, .ref q6, .ref q7, .ref q8, .ref q9, .ref q10, .ref q11, .ref q12, .ref q13, .int 0, .int (-1), .int (-1), .ref q14, .ref q15, .null, .null, .null, .null, .int 0, .null, .null, .null, .null, .null, .null, .null, .null, .null, .int 0, .int 0, .int 0, .int 0, .int 0, .int 0, .int 0, .int 0, .int 0, .null, .null, .null, .null, .null, .null, .null, .null, .null, .null, .null, .null, .null, .null, .null, .null, .null, .null])), (q1, .inl (g.2.1 0, 400, .inl (fun _ => 0))), (q3, .inl (g.2.1 1, 11, .inl (fun _ => 0))), (q4, .inl (g.2.1 1, 11, .inl (fun _ => 0))), (q5, .inl (g.2.1 1, 44, .inl (fun _ => 0))), (q6, .inl (g.2.1 1, 44, .inl (fun _ => 0))), (q7, .inl (g.2.1 1, 44, .inl (fun _ => 0)))]) X hin hW 0 ciX12 22 rfl (by decide) m_1253 rfl rfl rfl rfl rfl (Nat.le_of_ble_eq_true rfl) rfl dX12_init_138 (fun H locs hW => ?_)
  refine lv_aload_n (pc := 141) hx hb dX12_init_141 rfl (lv_at hl 0 rfl) ?_
  refine lv_sipush (v := 480) (pc := 142) hx hb dX12_init_142 (by decide) ?_
  refine r_newa (a0 := (480, .inl (fun _ => 0))) X hW .int rfl m_47 1 rfl (by intro C h; cases h) (fun _ => rfl) (by decide) (by decide) (Nat.le_of_ble_eq_true rfl) ⟨Nat.le_of_ble_eq_true rfl, Nat.le_of_ble_eq_true rfl⟩ dX12_init_145 (fun q16 H hW => ?_)
  have hW : WD g A s _ _ [(h0, .inr (12, [.int 0, .ref q1, .int 0, .int 0, .int 0, .int 0, .ref q2, .ref q3, .ref q4, .ref q5, .ref q6, .ref q7, .ref q8, .ref q9, .ref q10, .ref q11, .ref q12, .ref q13, .int 0, .int (-1), .int (-1), .ref q14, .ref q15, .null, .null, .null, .null, .int 0, .null, .null, .null, .null, .null, .null, .null, .null, .null, .int 0, .int 0, .int 0, .int 0, .int 0, .int 0, .int 0, .int 0, .int 0, .null, .null, .null, .null, .null, .null, .null, .null, .null, .null, .null, .null, .null, .null, .null, .null, .null, .null])), (q1, .inl (g.2.1 0, 400, .inl (fun _ => 0))), (q3, .inl (g.2.1 1, 11, .inl (fun _ => 0))), (q4, .inl (g.2.1 1, 11, .inl (fun _ => 0))), (q5, .inl (g.2.1 1, 44, .inl (fun _ => 0))), (q6, .inl (g.2.1 1, 44, .inl (fun _ => 0))), (q7, .inl (g.2.1 1, 44, .inl (fun _ => 0)))] := hW.pick [0, 1, 2, 3, 4, 5, 6] rfl rfl
  refine r_putF (ws' := [(h0, .inr (12, [.int 0, .ref q1, .int 0, .int 0, .int 0, .int 0, .ref q2, .ref q3, .ref q4, .ref q5, .ref q6, .ref q7, .ref q8, .ref q9, .ref q10, .ref q11, .ref q12, .ref q13, .int 0, .int (-1), .int (-1), .ref q14, .ref q15, .ref q16, .null, .null, .null, .int 0, .null, .null, .null, .null, .null, .null, .null, .null, .null, .int 0, .int 0, .int 0, .int 0, .int 0, .int 0, .int 0, .int 0, .int 0, .null, .null, .null, .null, .null, .null, .null, .null, .null, .null, .null, .null, .null, .null, .null, .null, .null, .null])), (q1, .inl (g.2.1 0, 400, .inl (fun _ => 0))), (q3, .inl (g.2.1 1, 11, .inl (fun _ => 0))), (q4, .inl (g.2.1 1, 11, .inl (fun _ => 0))), (q5, .inl (g.2.1 1, 44, .inl (fun _ => 0))), (q6, .inl (g.2.1 1, 44, .inl (fun _ => 0))), (q7, .inl (g.2.1 1, 44, .inl (fun _ => 0)))]) X hin hW 0 ciX12 23 rfl (by decide) m_1254 rfl rfl rfl rfl rfl (Nat.le_of_ble_eq_true rfl) rfl dX12_init_147 (fun H locs hW => ?_)
  refine lv_aload_n (pc := 150) hx hb dX12_init_150 rfl (lv_at hl 0 rfl) ?_
  refine lv_sipush (v := 480) (pc := 151) hx hb dX12_init_151 (by decide) ?_
  refine r_newa (a0 := (480, .inl (fun _ => 0))) X hW .int rfl m_47 1 rfl (by intro C h; cases h) (fun _ => rfl) (by decide) (by decide) (Nat.le_of_ble_eq_true rfl) ⟨Nat.le_of_ble_eq_true rfl, Nat.le_of_ble_eq_true rfl⟩ dX12_init_154 (fun q17 H hW => ?_)
  have hW : WD g A s _ _ [(h0, .inr (12, [.int 0, .ref q1, .int 0, .int 0, .int 0, .int 0, .ref q2, .ref q3, .ref q4, .ref q5, .ref q6, .ref q7, .ref q8, .ref q9, .ref q10, .ref q11, .ref q12, .ref q13, .int 0, .int (-1), .int (-1), .ref q14, .ref q15, .ref q16, .null, .null, .null, .int 0, .null, .null, .null, .null, .null, .null, .null, .null, .null, .int 0, .int 0, .int 0, .int 0, .int 0, .int 0, .int 0, .int 0, .int 0, .null, .null, .null, .null, .null, .null, .null, .null, .null, .null, .null, .null, .null, .null, .null, .null, .null, .null])), (q1, .inl (g.2.1 0, 400, .inl (fun _ => 0))), (q3, .inl (g.2.1 1, 11, .inl (fun _ => 0))), (q4, .inl (g.2.1 1, 11, .inl (fun _ => 0))), (q5, .inl (g.2.1 1, 44, .inl (fun _ => 0))), (q6, .inl (g.2.1 1, 44, .inl (fun _ => 0))), (q7, .inl (g.2.1 1, 44, .inl (fun _ => 0)))] := hW.pick [0, 1, 2, 3, 4, 5, 6] rfl rfl
  refine r_putF (ws' := [(h0, .inr (12, [.int 0, .ref q1, .int 0, .int 0, .int 0, .int 0, .ref q2, .ref q3, .ref q4, .ref q5, .ref q6, .ref q7, .ref q8, .ref q9, .ref q10, .ref q11, .ref q12, .ref q13, .int 0, .int (-1), .int (-1), .ref q14, .ref q15, .ref q16, .ref q17, .null, .null, .int 0, .null, .null, .null, .null, .null, .null, .null, .null, .null, .int 0, .int 0, .int 0, .int 0, .int 0, .int 0, .int 0, .int 0, .int 0, .null, .null, .null, .null, .null, .null, .null, .null, .null, .null, .null, .null, .null, .null, .null, .null, .null, .null])), (q1, .inl (g.2.1 0, 400, .inl (fun _ => 0))), (q3, .inl (g.2.1 1, 11, .inl (fun _ => 0))), (q4, .inl (g.2.1 1, 11, .inl (fun _ => 0))), (q5, .inl (g.2.1 1, 44, .inl (fun _ => 0))), (q6, .inl (g.2.1 1, 44, .inl (fun _ => 0))), (q7, .inl (g.2.1 1, 44, .inl (fun _ => 0)))]) X hin hW 0 ciX12 24 rfl (by decide) m_1255 rfl rfl rfl rfl rfl (Nat.le_of_ble_eq_true rfl) rfl dX12_init_156 (fun H locs hW => ?_)
  refine lv_aload_n (pc := 159) hx hb dX12_init_159 rfl (lv_at hl 0 rfl) ?_
  refine lv_sipush (v := 480) (pc := 160) hx hb dX12_init_160 (by decide) ?_
  refine r_newa (a0 := (480, .inl (fun _ => 0))) X hW .int rfl m_47 1 rfl (by intro C h; cases h) (fun _ => rfl) (by decide) (by decide) (Nat.le_of_ble_eq_true rfl) ⟨Nat.le_of_ble_eq_true rfl, Nat.le_of_ble_eq_true rfl⟩ dX12_init_163 (fun q18 H hW => ?_)
  have hW : WD g A s _ _ [(h0, .inr (12, [.int 0, .ref q1, .int 0, .int 0, .int 0, .int 0, .ref q2, .ref q3, .ref q4, .ref q5, .ref q6, .ref q7, .ref q8, .ref q9, .ref q10, .ref q11, .ref q12, .ref q13, .int 0, .int (-1), .int (-1), .ref q14, .ref q15, .ref q16, .ref q17, .null, .null, .int 0, .null, .null, .null, .null, .null, .null, .null, .null, .null, .int 0, .int 0, .int 0, .int 0, .int 0, .int 0, .int 0, .int 0, .int 0, .null, .null, .null, .null, .null, .null, .null, .null, .null, .null, .null, .null, .null, .null, .null, .null, .null, .null])), (q1, .inl (g.2.1 0, 400, .inl (fun _ => 0))), (q3, .inl (g.2.1 1, 11, .inl (fun _ => 0))), (q4, .inl (g.2.1 1, 11, .inl (fun _ => 0))), (q5, .inl (g.2.1 1, 44, .inl (fun _ => 0))), (q6, .inl (g.2.1 1, 44, .inl (fun _ => 0))), (q7, .inl (g.2.1 1, 44, .inl (fun _ => 0)))] := hW.pick [0, 1, 2, 3, 4, 5, 6] rfl rfl
  refine r_putF (ws' := [(h0, .inr (12, [.int 0, .ref q1, .int 0, .int 0, .int 0, .int 0, .ref q2, .ref q3, .ref q4, .ref q5, .ref q6, .ref q7, .ref q8, .ref q9, .ref q10, .ref q11, .ref q12, .ref q13, .int 0, .int (-1), .int (-1), .ref q14, .ref q15, .ref q16, .ref q17, .ref q18, .null, .int 0, .null, .null, .null, .null, .null, .null, .null, .null, .null, .int 0, .int 0, .int 0, .int 0, .int 0, .int 0, .int 0, .int 0, .int 0, .null, .null, .null, .null, .null, .null, .null, .null, .null, .null, .null, .null, .null, .null, .null, .null, .null, .null])), (q1, .inl (g.2.1 0, 400, .inl (fun _ => 0))), (q3, .inl (g.2.1 1, 11, .inl (fun _ => 0))), (q4, .inl (g.2.1 1, 11, .inl (fun _ => 0))), (q5, .inl (g.2.1 1, 44, .inl (fun _ => 0))), (q6, .inl (g.2.1 1, 44, .inl (fun _ => 0))), (q7, .inl (g.2.1 1, 44, .inl (fun _ => 0)))]) X hin hW 0 ciX12 25 rfl (by decide) m_1256 rfl rfl rfl rfl rfl (Nat.le_of_ble_eq_true rfl) rfl dX12_init_165 (fun H locs hW => ?_)
  refine lv_aload_n (pc := 168) hx hb dX12_init_168 rfl (lv_at hl 0 rfl) ?_
  refine lv_sipush (v := 480) (pc := 169) hx hb dX12_init_169 (by decide) ?_
  refine r_newa (a0 := (480, .inl (fun _ => 0))) X hW .int rfl m_47 1 rfl (by intro C h; cases h) (fun _ => rfl) (by decide) (by decide) (Nat.le_of_ble_eq_true rfl) ⟨Nat.le_of_ble_eq_true rfl, Nat.le_of_ble_eq_true rfl⟩ dX12_init_172 (fun q19 H hW => ?_)
  have hW : WD g A s _ _ [(h0, .inr (12, [.int 0, .ref q1, .int 0, .int 0, .int 0, .int 0, .ref q2, .ref q3, .ref q4, .ref q5, .ref q6, .ref q7, .ref q8, .ref q9, .ref q10, .ref q11, .ref q12, .ref q13, .int 0, .int (-1), .int (-1), .ref q14, .ref q15, .ref q16, .ref q17, .ref q18, .null, .int 0, .null, .null, .null, .null, .null, .null, .null, .null, .null, .int 0, .int 0, .int 0, .int 0, .int 0, .int 0, .int 0, .int 0, .int 0, .null, .null, .null, .null, .null, .null, .null, .null, .null, .null, .null, .null, .null, .null, .null, .null, .null, .null])), (q1, .inl (g.2.1 0, 400, .inl (fun _ => 0))), (q3, .inl (g.2.1 1, 11, .inl (fun _ => 0))), (q4, .inl (g.2.1 1, 11, .inl (fun _ => 0))), (q5, .inl (g.2.1 1, 44, .inl (fun _ => 0))), (q6, .inl (g.2.1 1, 44, .inl (fun _ => 0))), (q7, .inl (g.2.1 1, 44, .inl (fun _ => 0)))] := hW.pick [0, 1, 2, 3, 4, 5, 6] rfl rfl
  refine r_putF (ws' := [(h0, .inr (12, [.int 0, .ref q1, .int 0, .int 0, .int 0, .int 0, .ref q2, .ref q3, .ref q4, .ref q5, .ref q6, .ref q7, .ref q8, .ref q9, .ref q10, .ref q11, .ref q12, .ref q13, .int 0, .int (-1), .int (-1), .ref q14, .ref q15, .ref q16, .ref q17, .ref q18, .ref q19, .int 0, .null, .null, .null, .null, .null, .null, .null, .null, .null, .int 0, .int 0, .int 0, .int 0, .int 0, .int 0, .int 0, .int 0, .int 0, .null, .null, .null, .null, .null, .null, .null, .null, .null, .null, .null, .null, .null, .null, .null, .null, .null, .null])), (q1, .inl (g.2.1 0, 400, .inl (fun _ => 0))), (q3, .inl (g.2.1 1, 11, .inl (fun _ => 0))), (q4, .inl (g.2.1 1, 11, .inl (fun _ => 0))), (q5, .inl (g.2.1 1, 44, .inl (fun _ => 0))), (q6, .inl (g.2.1 1, 44, .inl (fun _ => 0))), (q7, .inl (g.2.1 1, 44, .inl (fun _ => 0)))]) X hin hW 0 ciX12 26 rfl (by decide) m_1257 rfl rfl rfl rfl rfl (Nat.le_of_ble_eq_true rfl) rfl dX12_init_174 (fun H locs hW => ?_)
  refine lv_aload_n (pc := 177) hx hb dX12_init_177 rfl (lv_at hl 0 rfl) ?_
  refine lv_bipush (v := 40) (pc := 178) hx hb dX12_init_178 (by decide) ?_
  refine r_newa (a0 := (40, .inl (fun _ => 0))) X hW .int rfl m_47 1 rfl (by intro C h; cases h) (fun _ => rfl) (by decide) (by decide) (Nat.le_of_ble_eq_true rfl) ⟨Nat.le_of_ble_eq_true rfl, Nat.le_of_ble_eq_true rfl⟩ dX12_init_180 (fun q20 H hW => ?_)
  have hW : WD g A s _ _ [(h0, .inr (12, [.int 0, .ref q1, .int 0, .int 0, .int 0, .int 0, .ref q2, .ref q3, .ref q4, .ref q5, .ref q6, .ref q7, .ref q8, .ref q9, .ref q10, .ref q11, .ref q12, .ref q13, .int 0, .int (-1), .int (-1), .ref q14, .ref q15, .ref q16, .ref q17, .ref q18, .ref q19, .int 0, .null, .null, .null, .null, .null, .null, .null, .null, .null, .int 0, .int 0, .int 0, .int 0, .int 0, .int 0, .int 0, .int 0, .int 0, .null, .null, .null, .null, .null, .null, .null, .null, .null, .null, .null, .null, .null, .null, .null, .null, .null, .null])), (q1, .inl (g.2.1 0, 400, .inl (fun _ => 0))), (q3, .inl (g.2.1 1, 11, .inl (fun _ => 0))), (q4, .inl (g.2.1 1, 11, .inl (fun _ => 0))), (q5, .inl (g.2.1 1, 44, .inl (fun _ => 0))), (q6, .inl (g.2.1 1, 44, .inl (fun _ => 0))), (q7, .inl (g.2.1 1, 44, .inl (fun _ => 0)))] := hW.pick [0, 1, 2, 3, 4, 5, 6] rfl rfl
  refine r_putF (ws' := [(h0, .inr (12, [.int 0, .ref q1, .int 0, .int 0, .int 0, .int 0, .ref q2, .ref q3, .ref q4, .ref q5, .ref q6, .ref q7, .ref q8, .ref q9, .ref q10, .ref q11, .ref q12, .ref q13, .int 0, .int (-1), .int (-1), .ref q14, .ref q15, .ref q16, .ref q17, .ref q18, .ref q19, .int 0, .ref q20, .null, .null, .null, .null, .null, .null, .null, .null, .int 0, .int 0, .int 0, .int 0, .int 0, .int 0, .int 0, .int 0, .int 0, .null, .null, .null, .null, .null, .null, .null, .null, .null, .null, .null, .null, .null, .null, .null, .null, .null, .null])), (q1, .inl (g.2.1 0, 400, .inl (fun _ => 0))), (q3, .inl (g.2.1 1, 11, .inl (fun _ => 0))), (q4, .inl (g.2.1 1, 11, .inl (fun _ => 0))), (q5, .inl (g.2.1 1, 44, .inl (fun _ => 0))), (q6, .inl (g.2.1 1, 44, .inl (fun _ => 0))), (q7, .inl (g.2.1 1, 44, .inl (fun _ => 0)))]) X hin hW 0 ciX12 28 rfl (by decide) m_1259 rfl rfl rfl rfl rfl (Nat.le_of_ble_eq_true rfl) rfl dX12_init_182 (fun H locs hW => ?_)
  refine lv_aload_n (pc := 185) hx hb dX12_init_185 rfl (lv_at hl 0 rfl) ?_
  refine lv_bipush (v := 40) (pc := 186) hx hb dX12_init_186 (by decide) ?_
  refine r_newa (a0 := (40, .inl (fun _ => 0))) X hW .int rfl m_47 1 rfl (by intro C h; cases h) (fun _ => rfl) (by decide) (by decide) (Nat.le_of_ble_eq_true rfl) ⟨Nat.le_of_ble_eq_true rfl, Nat.le_of_ble_eq_true rfl⟩ dX12_init_188 (fun q21 H hW => ?_)
  have hW : WD g A s _ _ [(h0, .inr (12, [.int 0, .ref q1, .int 0, .int 0, .int 0, .int 0, .ref q2, .ref q3, .ref q4, .ref q5, .ref q6, .ref q7, .ref q8, .ref q9, .ref q10, .ref q11, .ref q12, .ref q13, .int 0, .int (-1), .int (-1), .ref q14, .ref q15, .ref q16, .ref q17, .ref q18, .ref q19, .int 0, .ref q20, .null, .null, .null, .null, .null, .null, .null, .null, .int 0, .int 0, .int 0, .int 0, .int 0, .int 0, .int 0, .int 0, .int 0, .null, .null, .null, .null, .null, .null, .null, .null, .null, .null, .null, .null, .null, .null, .null, .null, .null, .null])), (q1, .inl (g.2.1 0, 400, .inl (fun _ => 0))), (q3, .inl (g.2.1 1, 11, .inl (fun _ => 0))), (q4, .inl (g.2.1 1, 11, .inl (fun _ => 0))), (q5, .inl (g.2.1 1, 44, .inl (fun _ => 0))), (q6, .inl (g.2.1 1, 44, .inl (fun _ => 0))), (q7, .inl (g.2.1 1, 44, .inl (fun _ => 0)))] := hW.pick [0, 1, 2, 3, 4, 5, 6] rfl rfl
  refine r_putF (ws' := [(h0, .inr (12, [.int 0, .ref q1, .int 0, .int 0, .int 0, .int 0, .ref q2, .ref q3, .ref q4, .ref q5, .ref q6, .ref q7, .ref q8, .ref q9, .ref q10, .ref q11, .ref q12, .ref q13, .int 0, .int (-1), .int (-1), .ref q14, .ref q15, .ref q16, .ref q17, .ref q18, .ref q19, .int 0, .ref q20, .ref q21, .null, .null, .null, .null, .null, .null, .null, .int 0, .int 0, .int 0, .int 0, .int 0, .int 0, .int 0, .int 0, .int 0, .null, .null, .null, .null, .null, .null, .null, .null, .null, .null, .null, .null, .null, .null, .null, .null, .null, .null])), (q1, .inl (g.2.1 0, 400, .inl (fun _ => 0))), (q3, .inl (g.2.1 1, 11, .inl (fun _ => 0))), (q4, .inl (g.2.1 1, 11, .inl (fun _ => 0))), (q5, .inl (g.2.1 1, 44, .inl (fun _ => 0))), (q6, .inl (g.2.1 1, 44, .inl (fun _ => 0))), (q7, .inl (g.2.1 1, 44, .inl (fun _ => 0)))]) X hin hW 0 ciX12 29 rfl (by decide) m_1260 rfl rfl rfl rfl rfl (Nat.le_of_ble_eq_true rfl) rfl dX12_init_190 (fun H locs hW => ?_)
  refine lv_aload_n (pc := 193) hx hb dX12_init_193 rfl (lv_at hl 0 rfl) ?_
  refine lv_sipush (v := 175) (pc := 194) hx hb dX12_init_194 (by decide) ?_
  refine r_newa (a0 := (175, .inl (fun _ => 0))) X hW .int rfl m_47 1 rfl (by intro C h; cases h) (fun _ => rfl) (by decide) (by decide) (Nat.le_of_ble_eq_true rfl) ⟨Nat.le_of_ble_eq_true rfl, Nat.le_of_ble_eq_true rfl⟩ dX12_init_197 (fun q22 H hW => ?_)
  have hW : WD g A s _ _ [(h0, .inr (12, [.int 0, .ref q1, .int 0, .int 0, .int 0, .int 0, .ref q2, .ref q3, .ref q4, .ref q5, .ref q6, .ref q7, .ref q8, .ref q9, .ref q10, .ref q11, .ref q12, .ref q13, .int 0, .int (-1), .int (-1), .ref q14, .ref q15, .ref q16, .ref q17, .ref q18, .ref q19, .int 0, .ref q20, .ref q21, .null, .null, .null, .null, .null, .null, .null, .int 0, .int 0, .int 0, .int 0, .int 0, .int 0, .int 0, .int 0, .int 0, .null, .null, .null, .null, .null, .null, .null, .null, .null, .null, .null, .null, .null, .null, .null, .null, .null, .null])), (q1, .inl (g.2.1 0, 400, .inl (fun _ => 0))), (q3, .inl (g.2.1 1, 11, .inl (fun _ => 0))), (q4, .inl (g.2.1 1, 11, .inl (fun _ => 0))), (q5, .inl (g.2.1 1, 44, .inl (fun _ => 0))), (q6, .inl (g.2.1 1, 44, .inl (fun _ => 0))), (q7, .inl (g.2.1 1, 44, .inl (fun _ => 0)))] := hW.pick [0, 1, 2, 3, 4, 5, 6] rfl rfl
  refine r_putF (ws' := [(h0, .inr (12, [.int 0, .ref q1, .int 0, .int 0, .int 0, .int 0, .ref q2, .ref q3, .ref q4, .ref q5, .ref q6, .ref q7, .ref q8, .ref q9, .ref q10, .ref q11, .ref q12, .ref q13, .int 0, .int (-1), .int (-1), .ref q14, .ref q15, .ref q16, .ref q17, .ref q18, .ref q19, .int 0, .ref q20, .ref q21, .ref q22, .null, .null, .null, .null, .null, .null, .int 0, .int 0, .int 0, .int 0, .int 0, .int 0, .int 0, .int 0, .int 0, .null, .null, .null, .null, .null, .null, .null, .null, .null, .null, .null, .null, .null, .null, .null, .null, .null, .null])), (q1, .inl (g.2.1 0, 400, .inl (fun _ => 0))), (q3, .inl (g.2.1 1, 11, .inl (fun _ => 0))), (q4, .inl (g.2.1 1, 11, .inl (fun _ => 0))), (q5, .inl (g.2.1 1, 44, .inl (fun _ => 0))), (q6, .inl (g.2.1 1, 44, .inl (fun _ => 0))), (q7, .inl (g.2.1 1, 44, .inl (fun _ => 0)))]) X hin hW 0 ciX12 30 rfl (by decide) m_1261 rfl rfl rfl rfl rfl (Nat.le_of_ble_eq_true rfl) rfl dX12_init_199 (fun H locs hW => ?_)
  refine lv_aload_n (pc := 202) hx hb dX12_init_202 rfl (lv_at hl 0 rfl) ?_
  refine lv_sipush (v := 175) (pc := 203) hx hb dX12_init_203 (by decide) ?_
  refine r_newa (a0 := (175, .inl (fun _ => 0))) X hW .int rfl m_47 1 rfl (by intro C h; cases h) (fun _ => rfl) (by decide) (by decide) (Nat.le_of_ble_eq_true rfl) ⟨Nat.le_of_ble_eq_true rfl, Nat.le_of_ble_eq_true rfl⟩ dX12_init_206 (fun q23 H hW => ?_)
  have hW : WD g A s _ _ [(h0, .inr (12, [.int 0, .ref q1, .int 0, .int 0, .int 0, .int 0, .ref q2, .ref q3, .ref q4, .ref q5, .ref q6, .ref q7, .ref q8, .ref q9, .ref q10, .ref q11, .ref q12, .ref q13, .int 0, .int (-1), .int (-1), .ref q14, .ref q15, .ref q16, .ref q17, .ref q18, .ref q19, .int 0, .ref q20, .ref q21, .ref q22, .null, .null, .null, .null, .null, .null, .int 0, .int 0, .int 0, .int 0, .int 0, .int 0, .int 0, .int 0, .int 0, .null, .null, .null, .null, .null, .null, .null, .null, .null, .null, .null, .null, .null, .null, .null, .null, .null, .null])), (q1, .inl (g.2.1 0, 400, .inl (fun _ => 0))), (q3, .inl (g.2.1 1, 11, .inl (fun _ => 0))), (q4, .inl (g.2.1 1, 11, .inl (fun _ => 0))), (q5, .inl (g.2.1 1, 44, .inl (fun _ => 0))), (q6, .inl (g.2.1 1, 44, .inl (fun _ => 0))), (q7, .inl (g.2.1 1, 44, .inl (fun _ => 0)))] := hW.pick [0, 1, 2, 3, 4, 5, 6] rfl rfl
  refine r_putF (ws' := [(h0, .inr (12, [.int 0, .ref q1, .int 0, .int 0, .int 0, .int 0, .ref q2, .ref q3, .ref q4, .ref q5, .ref q6, .ref q7, .ref q8, .ref q9, .ref q10, .ref q11, .ref q12, .ref q13, .int 0, .int (-1), .int (-1), .ref q14, .ref q15, .ref q16, .ref q17, .ref q18, .ref q19, .int 0, .ref q20, .ref q21, .ref q22, .ref q23, .null, .null, .null, .null, .null, .int 0, .int 0, .int 0, .int 0, .int 0, .int 0, .int 0, .int 0, .int 0, .null, .null, .null, .null, .null, .null, .null, .null, .null, .null, .null, .null, .null, .null, .null, .null, .null, .null])), (q1, .inl (g.2.1 0, 400, .inl (fun _ => 0))), (q3, .inl (g.2.1 1, 11, .inl (fun _ => 0))), (q4, .inl (g.2.1 1, 11, .inl (fun _ => 0))), (q5, .inl (g.2.1 1, 44, .inl (fun _ => 0))), (q6, .inl (g.2.1 1, 44, .inl (fun _ => 0))), (q7, .inl (g.2.1 1, 44, .inl (fun _ => 0)))]) X hin hW 0 ciX12 31 rfl (by decide) m_1262 rfl rfl rfl rfl rfl (Nat.le_of_ble_eq_true rfl) rfl dX12_init_208 (fun H locs hW => ?_)
  refine lv_aload_n (pc := 211) hx hb dX12_init_211 rfl (lv_at hl 0 rfl) ?_
  refine lv_bipush (v := 7) (pc := 212) hx hb dX12_init_212 (by decide) ?_
  refine r_newa (a0 := (7, .inl (fun _ => 0))) X hW .int rfl m_47 1 rfl (by intro C h; cases h) (fun _ => rfl) (by decide) (by decide) (Nat.le_of_ble_eq_true rfl) ⟨Nat.le_of_ble_eq_true rfl, Nat.le_of_ble_eq_true rfl⟩ dX12_init_214 (fun q24 H hW => ?_)
  have hW : WD g A s _ _ [(h0, .inr (12, [.int 0, .ref q1, .int 0, .int 0, .int 0, .int 0, .ref q2, .ref q3, .ref q4, .ref q5, .ref q6, .ref q7, .ref q8, .ref q9, .ref q10, .ref q11, .ref q12, .ref q13, .int 0, .int (-1), .int (-1), .ref q14, .ref q15, .ref q16, .ref q17, .ref q18, .ref q19, .int 0, .ref q20, .ref q21, .ref q22, .ref q23, .null, .null, .null, .null, .null, .int 0, .int 0, .int 0, .int 0, .int 0, .int 0, .int 0, .int 0, .int 0, .null, .null, .null, .null, .null, .null, .null, .null, .null, .null, .null, .null, .null, .null, .null, .null, .null, .null])), (q1, .inl (g.2.1 0, 400, .inl (fun _ => 0))), (q3, .inl (g.2.1 1, 11, .inl (fun _ => 0))), (q4, .inl (g.2.1 1, 11, .inl (fun _ => 0))), (q5, .inl (g.2.1 1, 44, .inl (fun _ => 0))), (q6, .inl (g.2.1 1, 44, .inl (fun _ => 0))), (q7, .inl (g.2.1 1, 44, .inl (fun _ => 0)))] := hW.pick [0, 1, 2, 3, 4, 5, 6] rfl rfl
  refine r_putF (ws' := [(h0, .inr (12, [.int 0, .ref q1, .int 0, .int 0, .int 0, .int 0, .ref q2, .ref q3, .ref q4, .ref q5, .ref q6, .ref q7, .ref q8, .ref q9, .ref q10, .ref q11, .ref q12, .ref q13, .int 0, .int (-1), .int (-1), .ref q14, .ref q15, .ref q16, .ref q17, .ref q18, .ref q19, .int 0, .ref q20, .ref q21, .ref q22, .ref q23, .ref q24, .null, .null, .null, .null, .int 0, .int 0, .int 0, .int 0, .int 0, .int 0, .int 0, .int 0, .int 0, .null, .null, .null, .null, .null, .null, .null, .null, .null, .null, .null, .null, .null, .null, .null, .null, .null, .null])), (q1, .inl (g.2.1 0, 400, .inl (fun _ => 0))), (q3, .inl (g.2.1 1, 11, .inl (fun _ => 0))), (q4, .inl (g.2.1 1, 11, .inl (fun _ => 0))), (q5, .inl (g.2.1 1, 44, .inl (fun _ => 0))), (q6, .inl (g.2.1 1, 44, .inl (fun _ => 0))), (q7, .inl (g.2.1 1, 44, .inl (fun _ => 0)))]) X hin hW 0 ciX12 32 rfl (by decide) m_1263 rfl rfl rfl rfl rfl (Nat.le_of_ble_eq_true rfl) rfl dX12_init_216 (fun H locs hW => ?_)
  refine lv_aload_n (pc := 219) hx hb dX12_init_219 rfl (lv_at hl 0 rfl) ?_
  refine lv_bipush (v := 7) (pc := 220) hx hb dX12_init_220 (by decide) ?_
  refine r_newa (a0 := (7, .inl (fun _ => 0))) X hW .int rfl m_47 1 rfl (by intro C h; cases h) (fun _ => rfl) (by decide) (by decide) (Nat.le_of_ble_eq_true rfl) ⟨Nat.le_of_ble_eq_true rfl, Nat.le_of_ble_eq_true rfl⟩ dX12_init_222 (fun q25 H hW => ?_)
  have hW : WD g A s _ _ [(h0, .inr (12, [.int 0, .ref q1, .int 0, .int 0, .int 0, .int 0, .ref q2, .ref q3, .ref q4, .ref q5, .ref q6, .ref q7, .ref q8, .ref q9, .ref q10, .ref q11, .ref q12, .ref q13, .int 0, .int (-1), .int (-1), .ref q14, .ref q15, .ref q16, .ref q17, .ref q18, .ref q19, .int 0, .ref q20, .ref q21, .ref q22, .ref q23, .ref q24, .null, .null, .null, .null, .int 0, .int 0, .int 0, .int 0, .int 0, .int 0, .int 0, .int 0, .int 0, .null, .null, .null, .null, .null, .null, .null, .null, .null, .null, .null, .null, .null, .null, .null, .null, .null, .null])), (q1, .inl (g.2.1 0, 400, .inl (fun _ => 0))), (q3, .inl (g.2.1 1, 11, .inl (fun _ => 0))), (q4, .inl (g.2.1 1, 11, .inl (fun _ => 0))), (q5, .inl (g.2.1 1, 44, .inl (fun _ => 0))), (q6, .inl (g.2.1 1, 44, .inl (fun _ => 0))), (q7, .inl (g.2.1 1, 44, .inl (fun _ => 0)))] := hW.pick [0, 1, 2, 3, 4, 5, 6] rfl rfl
  refine r_putF (ws' := [(h0, .inr (12, [.int 0, .ref q1, .int 0, .int 0, .int 0, .int 0, .ref q2, .ref q3, .ref q4, .ref q5, .ref q6, .ref q7, .ref q8, .ref q9, .ref q10, .ref q11, .ref q12, .ref q13, .int 0, .int (-1), .int (-1), .ref q14, .ref q15, .ref q16, .ref q17, .ref q18, .ref q19, .int 0, .ref q20, .ref q21, .ref q22, .ref q23, .ref q24, .ref q25, .null, .null, .null, .int 0, .int 0, .int 0, .int 0, .int 0, .int 0, .int 0, .int 0, .int 0, .null, .null, .null, .null, .null, .null, .null, .null, .null, .null, .null, .null, .null, .null, .null, .null, .null, .null])), (q1, .inl (g.2.1 0, 400, .inl (fun _ => 0))), (q3, .inl (g.2.1 1, 11, .inl (fun _ => 0))), (q4, .inl (g.2.1 1, 11, .inl (fun _ => 0))), (q5, .inl (g.2.1 1, 44, .inl (fun _ => 0))), (q6, .inl (g.2.1 1, 44, .inl (fun _ => 0))), (q7, .inl (g.2.1 1, 44, .inl (fun _ => 0)))]) X hin hW 0 ciX12 33 rfl (by decide) m_1264 rfl rfl rfl rfl rfl (Nat.le_of_ble_eq_true rfl) rfl dX12_init_224 (fun H locs hW => ?_)
  refine lv_aload_n (pc := 227) hx hb dX12_init_227 rfl (lv_at hl 0 rfl) ?_
  refine lv_ldc (pc := 228) hx hb X.2.2.2.1 (X.2.2.2.2.1 _ m_1229) dX12_init_228 ?_
  refine r_newa (a0 := (425984, .inl (fun _ => 0))) X hW .byte rfl m_1420 0 rfl (by intro C h; cases h) (fun _ => rfl) (by decide) (by decide) (Nat.le_of_ble_eq_true rfl) ⟨Nat.le_of_ble_eq_true rfl, Nat.le_of_ble_eq_true rfl⟩ dX12_init_230 (fun q26 H hW => ?_)
  have hW : WD g A s _ _ [(h0, .inr (12, [.int 0, .ref q1, .int 0, .int 0, .int 0, .int 0, .ref q2, .ref q3, .ref q4, .ref q5, .ref q6, .ref q7, .ref q8, .ref q9, .ref q10, .ref q11, .ref q12, .ref q13, .int 0, .int (-1), .int (-1), .ref q14, .ref q15, .ref q16, .ref q17, .ref q18, .ref q19, .int 0, .ref q20, .ref q21, .ref q22, .ref q23, .ref q24, .ref q25, .null, .null, .null, .int 0, .int 0, .int 0, .int 0, .int 0, .int 0, .int 0, .int 0, .int 0, .null, .null, .null, .null, .null, .null, .null, .null, .null, .null, .null, .null, .null, .null, .null, .null, .null, .null])), (q1, .inl (g.2.1 0, 400, .inl (fun _ => 0))), (q3, .inl (g.2.1 1, 11, .inl (fun _ => 0))), (q4, .inl (g.2.1 1, 11, .inl (fun _ => 0))), (q5, .inl (g.2.1 1, 44, .inl (fun _ => 0))), (q6, .inl (g.2.1 1, 44, .inl (fun _ => 0))), (q7, .inl (g.2.1 1, 44, .inl (fun _ => 0)))] := hW.pick [0, 1, 2, 3, 4, 5, 6] rfl rfl
  refine r_putF (ws' := [(h0, .inr (12, [.int 0, .ref q1, .int 0, .int 0, .int 0, .int 0, .ref q2, .ref q3, .ref q4, .ref q5, .ref q6, .ref q7, .ref q8, .ref q9, .ref q10, .ref q11, .ref q12, .ref q13, .int 0, .int (-1), .int (-1), .ref q14, .ref q15, .ref q16, .ref q17, .ref q18, .ref q19, .int 0, .ref q20, .ref q21, .ref q22, .ref q23, .ref q24, .ref q25, .ref q26, .null, .null, .int 0, .int 0, .int 0, .int 0, .int 0, .int 0, .int 0, .int 0, .int 0, .null, .null, .null, .null, .null, .null, .null, .null, .null, .null, .null, .null, .null, .null, .null, .null, .null, .null])), (q1, .inl (g.2.1 0, 400, .inl (fun _ => 0))), (q3, .inl (g.2.1 1, 11, .inl (fun _ => 0))), (q4, .inl (g.2.1 1, 11, .inl (fun _ => 0))), (q5, .inl (g.2.1 1, 44, .inl (fun _ => 0))), (q6, .inl (g.2.1 1, 44, .inl (fun _ => 0))), (q7, .inl (g.2.1 1, 44, .inl (fun _ => 0)))]) X hin hW 0 ciX12 34 rfl (by decide) m_1265 rfl rfl rfl rfl rfl (Nat.le_of_ble_eq_true rfl) rfl dX12_init_232 (fun H locs hW => ?_)
  refine lv_aload_n (pc := 235) hx hb dX12_init_235 rfl (lv_at hl 0 rfl) ?_
  refine lv_bipush (v := 7) (pc := 236) hx hb dX12_init_236 (by decide) ?_
  refine r_newa (a0 := (7, .inl (fun _ => 0))) X hW .int rfl m_47 1 rfl (by intro C h; cases h) (fun _ => rfl) (by decide) (by decide) (Nat.le_of_ble_eq_true rfl) ⟨Nat.le_of_ble_eq_true rfl, Nat.le_of_ble_eq_true rfl⟩ dX12_init_238 (fun q27 H hW => ?_)
  have hW : WD g A s _ _ [(h0, .inr (12, [.int 0, .ref q1, .int 0, .int 0, .int 0, .int 0, .ref q2, .ref q3, .ref q4, .ref q5, .ref q6, .ref q7, .ref q8, .ref q9, .ref q10, .ref q11, .ref q12, .ref q13, .int 0, .int (-1), .int (-1), .ref q14, .ref q15, .ref q16, .ref q17, .ref q18, .ref q19, .int 0, .ref q20, .ref q21, .ref q22, .ref q23, .ref q24, .ref q25, .ref q26, .null, .null, .int 0, .int 0, .int 0, .int 0, .int 0, .int 0, .int 0, .int 0, .int 0, .null, .null, .null, .null, .null, .null, .null, .null, .null, .null, .null, .null, .null, .null, .null, .null, .null, .null])), (q1, .inl (g.2.1 0, 400, .inl (fun _ => 0))), (q3, .inl (g.2.1 1, 11, .inl (fun _ => 0))), (q4, .inl (g.2.1 1, 11, .inl (fun _ => 0))), (q5, .inl (g.2.1 1, 44, .inl (fun _ => 0))), (q6, .inl (g.2.1 1, 44, .inl (fun _ => 0))), (q7, .inl (g.2.1 1, 44, .inl (fun _ => 0)))] := hW.pick [0, 1, 2, 3, 4, 5, 6] rfl rfl
  refine r_putF (ws' := [(h0, .inr (12, [.int 0, .ref q1, .int 0, .int 0, .int 0, .int 0, .ref q2, .ref q3, .ref q4, .ref q5, .ref q6, .ref q7, .ref q8, .ref q9, .ref q10, .ref q11, .ref q12, .ref q13, .int 0, .int (-1), .int (-1), .ref q14, .ref q15, .ref q16, .ref q17, .ref q18, .ref q19, .int 0, .ref q20, .ref q21, .ref q22, .ref q23, .ref q24, .ref q25, .ref q26, .ref q27, .null, .int 0, .int 0, .int 0, .int 0, .int 0, .int 0, .int 0, .int 0, .int 0, .null, .null, .null, .null, .null, .null, .null, .null, .null, .null, .null, .null, .null, .null, .null, .null, .null, .null])), (q1, .inl (g.2.1 0, 400, .inl (fun _ => 0))), (q3, .inl (g.2.1 1, 11, .inl (fun _ => 0))), (q4, .inl (g.2.1 1, 11, .inl (fun _ => 0))), (q5, .inl (g.2.1 1, 44, .inl (fun _ => 0))), (q6, .inl (g.2.1 1, 44, .inl (fun _ => 0))), (q7, .inl (g.2.1 1, 44, .inl (fun _ => 0)))]) X hin hW 0 ciX12 35 rfl (by decide) m_1266 rfl rfl rfl rfl rfl (Nat.le_of_ble_eq_true rfl) rfl dX12_init_240 (fun H locs hW => ?_)
  refine lv_aload_n (pc := 243) hx hb dX12_init_243 rfl (lv_at hl 0 rfl) ?_
  refine lv_bipush (v := 7) (pc := 244) hx hb dX12_init_244 (by decide) ?_
  refine r_newa (a0 := (7, .inl (fun _ => 0))) X hW .int rfl m_47 1 rfl (by intro C h; cases h) (fun _ => rfl) (by decide) (by decide) (Nat.le_of_ble_eq_true rfl) ⟨Nat.le_of_ble_eq_true rfl, Nat.le_of_ble_eq_true rfl⟩ dX12_init_246 (fun q28 H hW => ?_)
  have hW : WD g A s _ _ [(h0, .inr (12, [.int 0, .ref q1, .int 0, .int 0, .int 0, .int 0, .ref q2, .ref q3, .ref q4, .ref q5, .ref q6, .ref q7, .ref q8, .ref q9, .ref q10, .ref q11, .ref q12, .ref q13, .int 0, .int (-1), .int (-1), .ref q14, .ref q15, .ref q16, .ref q17, .ref q18, .ref q19, .int 0, .ref q20, .ref q21, .ref q22, .ref q23, .ref q24, .ref q25, .ref q26, .ref q27, .null, .int 0, .int 0, .int 0, .int 0, .int 0, .int 0, .int 0, .int 0, .int 0, .null, .null, .null, .null, .null, .null, .null, .null, .null, .null, .null, .null, .null, .null, .null, .null, .null, .null])), (q1, .inl (g.2.1 0, 400, .inl (fun _ => 0))), (q3, .inl (g.2.1 1, 11, .inl (fun _ => 0))), (q4, .inl (g.2.1 1, 11, .inl (fun _ => 0))), (q5, .inl (g.2.1 1, 44, .inl (fun _ => 0))), (q6, .inl (g.2.1 1, 44, .inl (fun _ => 0))), (q7, .inl (g.2.1 1, 44, .inl (fun _ => 0)))] := hW.pick [0, 1, 2, 3, 4, 5, 6] rfl rfl
  refine r_putF (ws' := [(h0, .inr (12, [.int 0, .ref q1, .int 0, .int 0, .int 0, .int 0, .ref q2, .ref q3, .ref q4, .ref q5, .ref q6, .ref q7, .ref q8, .ref q9, .ref q10, .ref q11, .ref q12, .ref q13, .int 0, .int (-1), .int (-1), .ref q14, .ref q15, .ref q16, .ref q17, .ref q18, .ref q19, .int 0, .ref q20, .ref q21, .ref q22, .ref q23, .ref q24, .ref q25, .ref q26, .ref q27, .ref q28, .int 0, .int 0, .int 0, .int 0, .int 0, .int 0, .int 0, .int 0, .int 0, .null, .null, .null, .null, .null, .null, .null, .null, .null, .null, .null, .null, .null, .null, .null, .null, .null, .null])), (q1, .inl (g.2.1 0, 400, .inl (fun _ => 0))), (q3, .inl (g.2.1 1, 11, .inl (fun _ => 0))), (q4, .inl (g.2.1 1, 11, .inl (fun _ => 0))), (q5, .inl (g.2.1 1, 44, .inl (fun _ => 0))), (q6, .inl (g.2.1 1, 44, .inl (fun _ => 0))), (q7, .inl (g.2.1 1, 44, .inl (fun _ => 0)))]) X hin hW 0 ciX12 36 rfl (by decide) m_1267 rfl rfl rfl rfl rfl (Nat.le_of_ble_eq_true rfl) rfl dX12_init_248 (fun H locs hW => ?_)
  refine lv_aload_n (pc := 251) hx hb dX12_init_251 rfl (lv_at hl 0 rfl) ?_
  refine lv_bipush (v := 112) (pc := 252) hx hb dX12_init_252 (by decide) ?_
  refine r_newa (a0 := (112, .inl (fun _ => 0))) X hW .int rfl m_47 1 rfl (by intro C h; cases h) (fun _ => rfl) (by decide) (by decide) (Nat.le_of_ble_eq_true rfl) ⟨Nat.le_of_ble_eq_true rfl, Nat.le_of_ble_eq_true rfl⟩ dX12_init_254 (fun q29 H hW => ?_)
  have hW : WD g A s _ _ [(h0, .inr (12, [.int 0, .ref q1, .int 0, .int 0, .int 0, .int 0, .ref q2, .ref q3, .ref q4, .ref q5, .ref q6, .ref q7, .ref q8, .ref q9, .ref q10, .ref q11, .ref q12, .ref q13, .int 0, .int (-1), .int (-1), .ref q14, .ref q15, .ref q16, .ref q17, .ref q18, .ref q19, .int 0, .ref q20, .ref q21, .ref q22, .ref q23, .ref q24, .ref q25, .ref q26, .ref q27, .ref q28, .int 0, .int 0, .int 0, .int 0, .int 0, .int 0, .int 0, .int 0, .int 0, .null, .null, .null, .null, .null, .null, .null, .null, .null, .null, .null, .null, .null, .null, .null, .null, .null, .null])), (q1, .inl (g.2.1 0, 400, .inl (fun _ => 0))), (q3, .inl (g.2.1 1, 11, .inl (fun _ => 0))), (q4, .inl (g.2.1 1, 11, .inl (fun _ => 0))), (q5, .inl (g.2.1 1, 44, .inl (fun _ => 0))), (q6, .inl (g.2.1 1, 44, .inl (fun _ => 0))), (q7, .inl (g.2.1 1, 44, .inl (fun _ => 0)))] := hW.pick [0, 1, 2, 3, 4, 5, 6] rfl rfl
  refine r_putF (ws' := [(h0, .inr (12, [.int 0, .ref q1, .int 0, .int 0, .int 0, .int 0, .ref q2, .ref q3, .ref q4, .ref q5, .ref q6, .ref q7, .ref q8, .ref q9, .ref q10, .ref q11, .ref q12, .ref q13, .int 0, .int (-1), .int (-1), .ref q14, .ref q15, .ref q16, .ref q17, .ref q18, .ref q19, .int 0, .ref q20, .ref q21, .ref q22, .ref q23, .ref q24, .ref q25, .ref q26, .ref q27, .ref q28, .int 0, .int 0, .int 0, .int 0, .int 0, .int 0, .int 0, .int 0, .int 0, .ref q29, .null, .null, .null, .null, .null, .null, .null, .null, .null, .null, .null, .null, .null, .null, .null, .null, .null])), (q1, .inl (g.2.1 0, 400, .inl (fun _ => 0))), (q3, .inl (g.2.1 1, 11, .inl (fun _ => 0))), (q4, .inl (g.2.1 1, 11, .inl (fun _ => 0))), (q5, .inl (g.2.1 1, 44, .inl (fun _ => 0))), (q6, .inl (g.2.1 1, 44, .inl (fun _ => 0))), (q7, .inl (g.2.1 1, 44, .inl (fun _ => 0)))]) X hin hW 0 ciX12 46 rfl (by decide) m_1273 rfl rfl rfl rfl rfl (Nat.le_of_ble_eq_true rfl) rfl dX12_init_256 (fun H locs hW => ?_)
  refine lv_aload_n (pc := 259) hx hb dX12_init_259 rfl (lv_at hl 0 rfl) ?_
  refine lv_bipush (v := 16) (pc := 260) hx hb dX12_init_260 (by decide) ?_
  refine r_newa (a0 := (16, .inl (fun _ => 0))) X hW .int rfl m_47 1 rfl (by intro C h; cases h) (fun _ => rfl) (by decide) (by decide) (Nat.le_of_ble_eq_true rfl) ⟨Nat.le_of_ble_eq_true rfl, Nat.le_of_ble_eq_true rfl⟩ dX12_init_262 (fun q30 H hW => ?_)
  have hW : WD g A s _ _ [(h0, .inr (12, [.int 0, .ref q1, .int 0, .int 0, .int 0, .int 0, .ref q2, .ref q3, .ref q4, .ref q5, .ref q6, .ref q7, .ref q8, .ref q9, .ref q10, .ref q11, .ref q12, .ref q13, .int 0, .int (-1), .int (-1), .ref q14, .ref q15, .ref q16, .ref q17, .ref q18, .ref q19, .int 0, .ref q20, .ref q21, .ref q22, .ref q23, .ref q24, .ref q25, .ref q26, .ref q27, .ref q28, .int 0, .int 0, .int 0, .int 0, .int 0, .int 0, .int 0, .int 0, .int 0, .ref q29, .null, .null, .null, .null, .null, .null, .null, .null, .null, .null, .null, .null, .null, .null, .null, .null, .null])), (q1, .inl (g.2.1 0, 400, .inl (fun _ => 0))), (q3, .inl (g.2.1 1, 11, .inl (fun _ => 0))), (q4, .inl (g.2.1 1, 11, .inl (fun _ => 0))), (q5, .inl (g.2.1 1, 44, .inl (fun _ => 0))), (q6, .inl (g.2.1 1, 44, .inl (fun _ => 0))), (q7, .inl (g.2.1 1, 44, .inl (fun _ => 0)))] := hW.pick [0, 1, 2, 3, 4, 5, 6] rfl rfl
  refine r_putF (ws' := [(h0, .inr (12, [.int 0, .ref q1, .int 0, .int 0, .int 0, .int 0, .ref q2, .ref q3, .ref q4, .ref q5, .ref q6, .ref q7, .ref q8, .ref q9, .ref q10, .ref q11, .ref q12, .ref q13, .int 0, .int (-1), .int (-1), .ref q14, .ref q15, .ref q16, .ref q17, .ref q18, .ref q19, .int 0, .ref q20, .ref q21, .ref q22, .ref q23, .ref q24, .ref q25, .ref q26, .ref q27, .ref q28, .int 0, .int 0, .int 0, .int 0, .int 0, .int 0, .int 0, .int 0, .int 0, .ref q29, .ref q30, .null, .null, .null, .null, .null, .null, .null, .null, .null, .null, .null, .null, .null, .null, .null, .null])), (q1, .inl (g.2.1 0, 400, .inl (fun _ => 0))), (q3, .inl (g.2.1 1, 11, .inl (fun _ => 0))), (q4, .inl (g.2.1 1, 11, .inl (fun _ => 0))), (q5, .inl (g.2.1 1, 44, .inl (fun _ => 0))), (q6, .inl (g.2.1 1, 44, .inl (fun _ => 0))), (q7, .inl (g.2.1 1, 44, .inl (fun _ => 0)))]) X hin hW 0 ciX12 47 rfl (by decide) m_1274 rfl rfl rfl rfl rfl (Nat.le_of_ble_eq_true rfl) rfl dX12_init_264 (fun H locs hW => ?_)
  refine lv_aload_n (pc := 267) hx hb dX12_init_267 rfl (lv_at hl 0 rfl) ?_
  refine lv_bipush (v := 12) (pc := 268) hx hb dX12_init_268 (by decide) ?_
  refine r_newa (a0 := (12, .inl (fun _ => 0))) X hW .boolean rfl m_109 3 rfl (by intro C h; cases h) (fun _ => rfl) (by decide) (by decide) (Nat.le_of_ble_eq_true rfl) ⟨Nat.le_of_ble_eq_true rfl, Nat.le_of_ble_eq_true rfl⟩ dX12_init_270 (fun q31 H hW => ?_)
  have hW : WD g A s _ _ [(h0, .inr (12, [.int 0, .ref q1, .int 0, .int 0, .int 0, .int 0, .ref q2, .ref q3, .ref q4, .ref q5, .ref q6, .ref q7, .ref q8, .ref q9, .ref q10, .ref q11, .ref q12, .ref q13, .int 0, .int (-1), .int (-1), .ref q14, .ref q15, .ref q16, .ref q17, .ref q18, .ref q19, .int 0, .ref q20, .ref q21, .ref q22, .ref q23, .ref q24, .ref q25, .ref q26, .ref q27, .ref q28, .int 0, .int 0, .int 0, .int 0, .int 0, .int 0, .int 0, .int 0, .int 0, .ref q29, .ref q30, .null, .null, .null, .null, .null, .null, .null, .null, .null, .null, .null, .null, .null, .null, .null, .null])), (q1, .inl (g.2.1 0, 400, .inl (fun _ => 0))), (q3, .inl (g.2.1 1, 11, .inl (fun _ => 0))), (q4, .inl (g.2.1 1, 11, .inl (fun _ => 0))), (q5, .inl (g.2.1 1, 44, .inl (fun _ => 0))), (q6, .inl (g.2.1 1, 44, .inl (fun _ => 0))), (q7, .inl (g.2.1 1, 44, .inl (fun _ => 0)))] := hW.pick [0, 1, 2, 3, 4, 5, 6] rfl rfl
  refine r_putF (ws' := [(h0, .inr (12, [.int 0, .ref q1, .int 0, .int 0, .int 0, .int 0, .ref q2, .ref q3, .ref q4, .ref q5, .ref q6, .ref q7, .ref q8, .ref q9, .ref q10, .ref q11, .ref q12, .ref q13, .int 0, .int (-1), .int (-1), .ref q14, .ref q15, .ref q16, .ref q17, .ref q18, .ref q19, .int 0, .ref q20, .ref q21, .ref q22, .ref q23, .ref q24, .ref q25, .ref q26, .ref q27, .ref q28, .int 0, .int 0, .int 0, .int 0, .int 0, .int 0, .int 0, .int 0, .int 0, .ref q29, .ref q30, .ref q31, .null, .null, .null, .null, .null, .null, .null, .null, .null, .null, .null, .null, .null, .null, .null])), (q1, .inl (g.2.1 0, 400, .inl (fun _ => 0))), (q3, .inl (g.2.1 1, 11, .inl (fun _ => 0))), (q4, .inl (g.2.1 1, 11, .inl (fun _ => 0))), (q5, .inl (g.2.1 1, 44, .inl (fun _ => 0))), (q6, .inl (g.2.1 1, 44, .inl (fun _ => 0))), (q7, .inl (g.2.1 1, 44, .inl (fun _ => 0)))]) X hin hW 0 ciX12 48 rfl (by decide) m_1275 rfl rfl rfl rfl rfl (Nat.le_of_ble_eq_true rfl) rfl dX12_init_272 (fun H locs hW => ?_)
  refine lv_aload_n (pc := 275) hx hb dX12_init_275 rfl (lv_at hl 0 rfl) ?_
  refine lv_ldc (pc := 276) hx hb X.2.2.2.1 (X.2.2.2.2.1 _ m_1230) dX12_init_276 ?_
  refine r_newa (a0 := (65536, .inl (fun _ => 0))) X hW .int rfl m_47 1 rfl (by intro C h; cases h) (fun _ => rfl) (by decide) (by decide) (Nat.le_of_ble_eq_true rfl) ⟨Nat.le_of_ble_eq_true rfl, Nat.le_of_ble_eq_true rfl⟩ dX12_init_278 (fun q32 H hW => ?_)
  have hW : WD g A s _ _ [(h0, .inr (12, [.int 0, .ref q1, .int 0, .int 0, .int 0, .int 0, .ref q2, .ref q3, .ref q4, .ref q5, .ref q6, .ref q7, .ref q8, .ref q9, .ref q10, .ref q11, .ref q12, .ref q13, .int 0, .int (-1), .int (-1), .ref q14, .ref q15, .ref q16, .ref q17, .ref q18, .ref q19, .int 0, .ref q20, .ref q21, .ref q22, .ref q23, .ref q24, .ref q25, .ref q26, .ref q27, .ref q28, .int 0, .int 0, .int 0, .int 0, .int 0, .int 0, .int 0, .int 0, .int 0, .ref q29, .ref q30, .ref q31, .null, .null, .null, .null, .null, .null, .null, .null, .null, .null, .null, .null, .null, .null, .null])), (q1, .inl (g.2.1 0, 400, .inl (fun _ => 0))), (q3, .inl (g.2.1 1, 11, .inl (fun _ => 0))), (q4, .inl (g.2.1 1, 11, .inl (fun _ => 0))), (q5, .inl (g.2.1 1, 44, .inl (fun _ => 0))), (q6, .inl (g.2.1 1, 44, .inl (fun _ => 0))), (q7, .inl (g.2.1 1, 44, .inl (fun _ => 0)))] := hW.pick [0, 1, 2, 3, 4, 5, 6] rfl rfl
  refine r_putF (ws' := [(h0, .inr (12, [.int 0, .ref q1, .int 0, .int 0, .int 0, .int 0, .ref q2, .ref q3, .ref q4, .ref q5, .ref q6, .ref q7, .ref q8, .ref q9, .ref q10, .ref q11, .ref q12, .ref q13, .int 0, .int (-1), .int (-1), .ref q14, .ref q15, .ref q16, .ref q17, .ref q18, .ref q19, .int 0, .ref q20, .ref q21, .ref q22, .ref q23, .ref q24, .ref q25, .ref q26, .ref q27, .ref q28, .int 0, .int 0, .int 0, .int 0, .int 0, .int 0, .int 0, .int 0, .int 0, .ref q29, .ref q30, .ref q31, .ref q32, .null, .null, .null, .null, .null, .null, .null, .null, .null, .null, .null, .null, .null, .null])), (q1, .inl (g.2.1 0, 400, .inl (fun _ => 0))), (q3, .inl (g.2.1 1, 11, .inl (fun _ => 0))), (q4, .inl (g.2.1 1, 11, .inl (fun _ => 0))), (q5, .inl (g.2.1 1, 44, .inl (fun _ => 0))), (q6, .inl (g.2.1 1, 44, .inl (fun _ => 0))), (q7, .inl (g.2.1 1, 44, .inl (fun _ => 0)))]) X hin hW 0 ciX12 49 rfl (by decide) m_1276 rfl rfl rfl rfl rfl (Nat.le_of_ble_eq_true rfl) rfl dX12_init_280 (fun H locs hW => ?_)
  refine lv_aload_n (pc := 283) hx hb dX12_init_283 rfl (lv_at hl 0 rfl) ?_
  refine lv_ldc (pc := 284) hx hb X.2.2.2.1 (X.2.2.2.2.1 _ m_1230) dX12_init_284 ?_
  refine r_newa (a0 := (65536, .inl (fun _ => 0))) X hW .int rfl m_47 1 rfl (by intro C h; cases h) (fun _ => rfl) (by decide) (by decide) (Nat.le_of_ble_eq_true rfl) ⟨Nat.le_of_ble_eq_true rfl, Nat.le_of_ble_eq_true rfl⟩ dX12_init_286 (fun q33 H hW => ?_)
  have hW : WD g A s _ _ [(h0, .inr (12, [.int 0, .ref q1, .int 0, .int 0, .int 0, .int 0, .ref q2, .ref q3, .ref q4, .ref q5, .ref q6, .ref q7, .ref q8, .ref q9, .ref q10, .ref q11, .ref q12, .ref q13, .int 0, .int (-1), .int (-1), .ref q14, .ref q15, .ref q16, .ref q17, .ref q18, .ref q19, .int 0, .ref q20, .ref q21, .ref q22, .ref q23, .ref q24, .ref q25, .ref q26, .ref q27, .ref q28, .int 0, .int 0, .int 0, .int 0, .int 0, .int 0, .int 0, .int 0, .int 0, .ref q29, .ref q30, .ref q31, .ref q32, .null, .null, .null, .null, .null, .null, .null, .null, .null, .null, .null, .null, .null, .null])), (q1, .inl (g.2.1 0, 400, .inl (fun _ => 0))), (q3, .inl (g.2.1 1, 11, .inl (fun _ => 0))), (q4, .inl (g.2.1 1, 11, .inl (fun _ => 0))), (q5, .inl (g.2.1 1, 44, .inl (fun _ => 0))), (q6, .inl (g.2.1 1, 44, .inl (fun _ => 0))), (q7, .inl (g.2.1 1, 44, .inl (fun _ => 0)))] := hW.pick [0, 1, 2, 3, 4, 5, 6] rfl rfl
  refine r_putF (ws' := [(h0, .inr (12, [.int 0, .ref q1, .int 0, .int 0, .int 0, .int 0, .ref q2, .ref q3, .ref q4, .ref q5, .ref q6, .ref q7, .ref q8, .ref q9, .ref q10, .ref q11, .ref q12, .ref q13, .int 0, .int (-1), .int (-1), .ref q14, .ref q15, .ref q16, .ref q17, .ref q18, .ref q19, .int 0, .ref q20, .ref q21, .ref q22, .ref q23, .ref q24, .ref q25, .ref q26, .ref q27, .ref q28, .int 0, .int 0, .int 0, .int 0, .int 0, .int 0, .int 0, .int 0, .int 0, .ref q29, .ref q30, .ref q31, .ref q32, .ref q33, .null, .null, .null, .null, .null, .null, .null, .null, .null, .null, .null, .null, .null])), (q1, .inl (g.2.1 0, 400, .inl (fun _ => 0))), (q3, .inl (g.2.1 1, 11, .inl (fun _ => 0))), (q4, .inl (g.2.1 1, 11, .inl (fun _ => 0))), (q5, .inl (g.2.1 1, 44, .inl (fun _ => 0))), (q6, .inl (g.2.1 1, 44, .inl (fun _ => 0))), (q7, .inl (g.2.1 1, 44, .inl (fun _ => 0)))]) X hin hW 0 ciX12 50 rfl (by decide) m_1277 rfl rfl rfl rfl rfl (Nat.le_of_ble_eq_true rfl) rfl dX12_init_288 (fun H locs hW => ?_)
  refine lv_aload_n (pc := 291) hx hb dX12_init_291 rfl (lv_at hl 0 rfl) ?_
  refine lv_bipush (v := 9) (pc := 292) hx hb dX12_init_292 (by decide) ?_
  refine r_newa (a0 := (9, .inl (fun _ => 0))) X hW .int rfl m_47 1 rfl (by intro C h; cases h) (fun _ => rfl) (by decide) (by decide) (Nat.le_of_ble_eq_true rfl) ⟨Nat.le_of_ble_eq_true rfl, Nat.le_of_ble_eq_true rfl⟩ dX12_init_294 (fun q34 H hW => ?_)
  have hW : WD g A s _ _ [(h0, .inr (12, [.int 0, .ref q1, .int 0, .int 0, .int 0, .int 0, .ref q2, .ref q3, .ref q4, .ref q5, .ref q6, .ref q7, .ref q8, .ref q9, .ref q10, .ref q11, .ref q12, .ref q13, .int 0, .int (-1), .int (-1), .ref q14, .ref q15, .ref q16, .ref q17, .ref q18, .ref q19, .int 0, .ref q20, .ref q21, .ref q22, .ref q23, .ref q24, .ref q25, .ref q26, .ref q27, .ref q28, .int 0, .int 0, .int 0, .int 0, .int 0, .int 0, .int 0, .int 0, .int 0, .ref q29, .ref q30, .ref q31, .ref q32, .ref q33, .null, .null, .null, .null, .null, .null, .null, .null, .null, .null, .null, .null, .null])), (q1, .inl (g.2.1 0, 400, .inl (fun _ => 0))), (q3, .inl (g.2.1 1, 11, .inl (fun _ => 0))), (q4, .inl (g.2.1 1, 11, .inl (fun _ => 0))), (q5, .inl (g.2.1 1, 44, .inl (fun _ => 0))), (q6, .inl (g.2.1 1, 44, .inl (fun _ => 0))), (q7, .inl (g.2.1 1, 44, .inl (fun _ => 0)))] := hW.pick [0, 1, 2, 3, 4, 5, 6] rfl rfl
  refine r_putF (ws' := [(h0, .inr (12, [.int 0, .ref q1, .int 0, .int 0, .int 0, .int 0, .ref q2, .ref q3, .ref q4, .ref q5, .ref q6, .ref q7, .ref q8, .ref q9, .ref q10, .ref q11, .ref q12, .ref q13, .int 0, .int (-1), .int (-1), .ref q14, .ref q15, .ref q16, .ref q17, .ref q18, .ref q19, .int 0, .ref q20, .ref q21, .ref q22, .ref q23, .ref q24, .ref q25, .ref q26, .ref q27, .ref q28, .int 0, .int 0, .int 0, .int 0, .int 0, .int 0, .int 0, .int 0, .int 0, .ref q29, .ref q30, .ref q31, .ref q32, .ref q33, .ref q34, .null, .null, .null, .null, .null, .null, .null, .null, .null, .null, .null, .null])), (q1, .inl (g.2.1 0, 400, .inl (fun _ => 0))), (q3, .inl (g.2.1 1, 11, .inl (fun _ => 0))), (q4, .inl (g.2.1 1, 11, .inl (fun _ => 0))), (q5, .inl (g.2.1 1, 44, .inl (fun _ => 0))), (q6, .inl (g.2.1 1, 44, .inl (fun _ => 0))), (q7, .inl (g.2.1 1, 44, .inl (fun _ => 0)))]) X hin hW 0 ciX12 51 rfl (by decide) m_1278 rfl rfl rfl rfl rfl (Nat.le_of_ble_eq_true rfl) rfl dX12_init_296 (fun H locs hW => ?_)
  refine lv_aload_n (pc := 299) hx hb dX12_init_299 rfl (lv_at hl 0 rfl) ?_
  refine lv_sipush (v := 420) (pc := 300) hx hb dX12_init_300 (by decide) ?_
  refine r_newa (a0 := (420, .inl (fun _ => 0))) X hW .int rfl m_47 1 rfl (by intro C h; cases h) (fun _ => rfl) (by decide) (by decide) (Nat.le_of_ble_eq_true rfl) ⟨Nat.le_of_ble_eq_true rfl, Nat.le_of_ble_eq_true rfl⟩ dX12_init_303 (fun q35 H hW => ?_)
  have hW : WD g A s _ _ [(h0, .inr (12, [.int 0, .ref q1, .int 0, .int 0, .int 0, .int 0, .ref q2, .ref q3, .ref q4, .ref q5, .ref q6, .ref q7, .ref q8, .ref q9, .ref q10, .ref q11, .ref q12, .ref q13, .int 0, .int (-1), .int (-1), .ref q14, .ref q15, .ref q16, .ref q17, .ref q18, .ref q19, .int 0, .ref q20, .ref q21, .ref q22, .ref q23, .ref q24, .ref q25, .ref q26, .ref q27, .ref q28, .int 0, .int 0, .int 0, .int 0, .int 0, .int 0, .int 0, .int 0, .int 0, .ref q29, .ref q30, .ref q31, .ref q32, .ref q33, .ref q34, .null, .null, .null, .null, .null, .null, .null, .null, .null, .null, .null, .null])), (q1, .inl (g.2.1 0, 400, .inl (fun _ => 0))), (q3, .inl (g.2.1 1, 11, .inl (fun _ => 0))), (q4, .inl (g.2.1 1, 11, .inl (fun _ => 0))), (q5, .inl (g.2.1 1, 44, .inl (fun _ => 0))), (q6, .inl (g.2.1 1, 44, .inl (fun _ => 0))), (q7, .inl (g.2.1 1, 44, .inl (fun _ => 0)))] := hW.pick [0, 1, 2, 3, 4, 5, 6] rfl rfl
  refine r_putF (ws' := [(h0, .inr (12, [.int 0, .ref q1, .int 0, .int 0, .int 0, .int 0, .ref q2, .ref q3, .ref q4, .ref q5, .ref q6, .ref q7, .ref q8, .ref q9, .ref q10, .ref q11, .ref q12, .ref q13, .int 0, .int (-1), .int (-1), .ref q14, .ref q15, .ref q16, .ref q17, .ref q18, .ref q19, .int 0, .ref q20, .ref q21, .ref q22, .ref q23, .ref q24, .ref q25, .ref q26, .ref q27, .ref q28, .int 0, .int 0, .int 0, .int 0, .int 0, .int 0, .int 0, .int 0, .int 0, .ref q29, .ref q30, .ref q31, .ref q32, .ref q33, .ref q34, .ref q35, .null, .null, .null, .null, .null, .null, .null, .null, .null, .null, .null])), (q1, .inl (g.2.1 0, 400, .inl (fun _ => 0))), (q3, .inl (g.2.1 1, 11, .inl (fun _ => 0))), (q4, .inl (g.2.1 1, 11, .inl (fun _ => 0))), (q5, .inl (g.2.1 1, 44, .inl (fun _ => 0))), (q6, .inl (g.2.1 1, 44, .inl (fun _ => 0))), (q7, .inl (g.2.1 1, 44, .inl (fun _ => 0)))]) X hin hW 0 ciX12 52 rfl (by decide) m_1279 rfl rfl rfl rfl rfl (Nat.le_of_ble_eq_true rfl) rfl dX12_init_305 (fun H locs hW => ?_)
  refine lv_aload_n (pc := 308) hx hb dX12_init_308 rfl (lv_at hl 0 rfl) ?_
  refine lv_bipush (v := 77) (pc := 309) hx hb dX12_init_309 (by decide) ?_
  refine r_newa (a0 := (77, .inl (fun _ => 0))) X hW .int rfl m_47 1 rfl (by intro C h; cases h) (fun _ => rfl) (by decide) (by decide) (Nat.le_of_ble_eq_true rfl) ⟨Nat.le_of_ble_eq_true rfl, Nat.le_of_ble_eq_true rfl⟩ dX12_init_311 (fun q36 H hW => ?_)
  have hW : WD g A s _ _ [(h0, .inr (12, [.int 0, .ref q1, .int 0, .int 0, .int 0, .int 0, .ref q2, .ref q3, .ref q4, .ref q5, .ref q6, .ref q7, .ref q8, .ref q9, .ref q10, .ref q11, .ref q12, .ref q13, .int 0, .int (-1), .int (-1), .ref q14, .ref q15, .ref q16, .ref q17, .ref q18, .ref q19, .int 0, .ref q20, .ref q21, .ref q22, .ref q23, .ref q24, .ref q25, .ref q26, .ref q27, .ref q28, .int 0, .int 0, .int 0, .int 0, .int 0, .int 0, .int 0, .int 0, .int 0, .ref q29, .ref q30, .ref q31, .ref q32, .ref q33, .ref q34, .ref q35, .null, .null, .null, .null, .null, .null, .null, .null, .null, .null, .null])), (q1, .inl (g.2.1 0, 400, .inl (fun _ => 0))), (q3, .inl (g.2.1 1, 11, .inl (fun _ => 0))), (q4, .inl (g.2.1 1, 11, .inl (fun _ => 0))), (q5, .inl (g.2.1 1, 44, .inl (fun _ => 0))), (q6, .inl (g.2.1 1, 44, .inl (fun _ => 0))), (q7, .inl (g.2.1 1, 44, .inl (fun _ => 0)))] := hW.pick [0, 1, 2, 3, 4, 5, 6] rfl rfl
  refine r_putF (ws' := [(h0, .inr (12, [.int 0, .ref q1, .int 0, .int 0, .int 0, .int 0, .ref q2, .ref q3, .ref q4, .ref q5, .ref q6, .ref q7, .ref q8, .ref q9, .ref q10, .ref q11, .ref q12, .ref q13, .int 0, .int (-1), .int (-1), .ref q14, .ref q15, .ref q16, .ref q17, .ref q18, .ref q19, .int 0, .ref q20, .ref q21, .ref q22, .ref q23, .ref q24, .ref q25, .ref q26, .ref q27, .ref q28, .int 0, .int 0, .int 0, .int 0, .int 0, .int 0, .int 0, .int 0, .int 0, .ref q29, .ref q30, .ref q31, .ref q32, .ref q33, .ref q34, .ref q35, .ref q36, .null, .null, .null, .null, .null, .null, .null, .null, .null, .null])), (q1, .inl (g.2.1 0, 400, .inl (fun _ => 0))), (q3, .inl (g.2.1 1, 11, .inl (fun _ => 0))), (q4, .inl (g.2.1 1, 11, .inl (fun _ => 0))), (q5, .inl (g.2.1 1, 44, .inl (fun _ => 0))), (q6, .inl (g.2.1 1, 44, .inl (fun _ => 0))), (q7, .inl (g.2.1 1, 44, .inl (fun _ => 0)))]) X hin hW 0 ciX12 53 rfl (by decide) m_1280 rfl rfl rfl rfl rfl (Nat.le_of_ble_eq_true rfl) rfl dX12_init_313 (fun H locs hW => ?_)
  refine lv_aload_n (pc := 316) hx hb dX12_init_316 rfl (lv_at hl 0 rfl) ?_
  refine lv_bipush (v := 7) (pc := 317) hx hb dX12_init_317 (by decide) ?_
  refine r_newa (a0 := (7, .inl (fun _ => 0))) X hW .int rfl m_47 1 rfl (by intro C h; cases h) (fun _ => rfl) (by decide) (by decide) (Nat.le_of_ble_eq_true rfl) ⟨Nat.le_of_ble_eq_true rfl, Nat.le_of_ble_eq_true rfl⟩ dX12_init_319 (fun q37 H hW => ?_)
  have hW : WD g A s _ _ [(h0, .inr (12, [.int 0, .ref q1, .int 0, .int 0, .int 0, .int 0, .ref q2, .ref q3, .ref q4, .ref q5, .ref q6, .ref q7, .ref q8, .ref q9, .ref q10, .ref q11, .ref q12, .ref q13, .int 0, .int (-1), .int (-1), .ref q14, .ref q15, .ref q16, .ref q17, .ref q18, .ref q19, .int 0, .ref q20, .ref q21, .ref q22, .ref q23, .ref q24, .ref q25, .ref q26, .ref q27, .ref q28, .int 0, .int 0, .int 0, .int 0, .int 0, .int 0, .int 0, .int 0, .int 0, .ref q29, .ref q30, .ref q31, .ref q32, .ref q33, .ref q34, .ref q35, .ref q36, .null, .null, .null, .null, .null, .null, .null, .null, .null, .null])), (q1, .inl (g.2.1 0, 400, .inl (fun _ => 0))), (q3, .inl (g.2.1 1, 11, .inl (fun _ => 0))), (q4, .inl (g.2.1 1, 11, .inl (fun _ => 0))), (q5, .inl (g.2.1 1, 44, .inl (fun _ => 0))), (q6, .inl (g.2.1 1, 44, .inl (fun _ => 0))), (q7, .inl (g.2.1 1, 44, .inl (fun _ => 0)))] := hW.pick [0, 1, 2, 3, 4, 5, 6] rfl rfl
  refine r_putF (ws' := [(h0, .inr (12, [.int 0, .ref q1, .int 0, .int 0, .int 0, .int 0, .ref q2, .ref q3, .ref q4, .ref q5, .ref q6, .ref q7, .ref q8, .ref q9, .ref q10, .ref q11, .ref q12, .ref q13, .int 0, .int (-1), .int (-1), .ref q14, .ref q15, .ref q16, .ref q17, .ref q18, .ref q19, .int 0, .ref q20, .ref q21, .ref q22, .ref q23, .ref q24, .ref q25, .ref q26, .ref q27, .ref q28, .int 0, .int 0, .int 0, .int 0, .int 0, .int 0, .int 0, .int 0, .int 0, .ref q29, .ref q30, .ref q31, .ref q32, .ref q33, .ref q34, .ref q35, .ref q36, .ref q37, .null, .null, .null, .null, .null, .null, .null, .null, .null])), (q1, .inl (g.2.1 0, 400, .inl (fun _ => 0))), (q3, .inl (g.2.1 1, 11, .inl (fun _ => 0))), (q4, .inl (g.2.1 1, 11, .inl (fun _ => 0))), (q5, .inl (g.2.1 1, 44, .inl (fun _ => 0))), (q6, .inl (g.2.1 1, 44, .inl (fun _ => 0))), (q7, .inl (g.2.1 1, 44, .inl (fun _ => 0)))]) X hin hW 0 ciX12 54 rfl (by decide) m_1281 rfl rfl rfl rfl rfl (Nat.le_of_ble_eq_true rfl) rfl dX12_init_321 (fun H locs hW => ?_)
  refine lv_aload_n (pc := 324) hx hb dX12_init_324 rfl (lv_at hl 0 rfl) ?_
  refine lv_bipush (v := 49) (pc := 325) hx hb dX12_init_325 (by decide) ?_
  refine r_newa (a0 := (49, .inl (fun _ => 0))) X hW .int rfl m_47 1 rfl (by intro C h; cases h) (fun _ => rfl) (by decide) (by decide) (Nat.le_of_ble_eq_true rfl) ⟨Nat.le_of_ble_eq_true rfl, Nat.le_of_ble_eq_true rfl⟩ dX12_init_327 (fun q38 H hW => ?_)
  have hW : WD g A s _ _ [(h0, .inr (12, [.int 0, .ref q1, .int 0, .int 0, .int 0, .int 0, .ref q2, .ref q3, .ref q4, .ref q5, .ref q6, .ref q7, .ref q8, .ref q9, .ref q10, .ref q11, .ref q12, .ref q13, .int 0, .int (-1), .int (-1), .ref q14, .ref q15, .ref q16, .ref q17, .ref q18, .ref q19, .int 0, .ref q20, .ref q21, .ref q22, .ref q23, .ref q24, .ref q25, .ref q26, .ref q27, .ref q28, .int 0, .int 0, .int 0, .int 0, .int 0, .int 0, .int 0, .int 0, .int 0, .ref q29, .ref q30, .ref q31, .ref q32, .ref q33, .ref q34, .ref q35, .ref q36, .ref q37, .null, .null, .null, .null, .null, .null, .null, .null, .null])), (q1, .inl (g.2.1 0, 400, .inl (fun _ => 0))), (q3, .inl (g.2.1 1, 11, .inl (fun _ => 0))), (q4, .inl (g.2.1 1, 11, .inl (fun _ => 0))), (q5, .inl (g.2.1 1, 44, .inl (fun _ => 0))), (q6, .inl (g.2.1 1, 44, .inl (fun _ => 0))), (q7, .inl (g.2.1 1, 44, .inl (fun _ => 0)))] := hW.pick [0, 1, 2, 3, 4, 5, 6] rfl rfl
  refine r_putF (ws' := [(h0, .inr (12, [.int 0, .ref q1, .int 0, .int 0, .int 0, .int 0, .ref q2, .ref q3, .ref q4, .ref q5, .ref q6, .ref q7, .ref q8, .ref q9, .ref q10, .ref q11, .ref q12, .ref q13, .int 0, .int (-1), .int (-1), .ref q14, .ref q15, .ref q16, .ref q17, .ref q18, .ref q19, .int 0, .ref q20, .ref q21, .ref q22, .ref q23, .ref q24, .ref q25, .ref q26, .ref q27, .ref q28, .int 0, .int 0, .int 0, .int 0, .int 0, .int 0, .int 0, .int 0, .int 0, .ref q29, .ref q30, .ref q31, .ref q32, .ref q33, .ref q34, .ref q35, .ref q36, .ref q37, .ref q38, .null, .null, .null, .null, .null, .null, .null, .null])), (q1, .inl (g.2.1 0, 400, .inl (fun _ => 0))), (q3, .inl (g.2.1 1, 11, .inl (fun _ => 0))), (q4, .inl (g.2.1 1, 11, .inl (fun _ => 0))), (q5, .inl (g.2.1 1, 44, .inl (fun _ => 0))), (q6, .inl (g.2.1 1, 44, .inl (fun _ => 0))), (q7, .inl (g.2.1 1, 44, .inl (fun _ => 0)))]) X hin hW 0 ciX12 55 rfl (by decide) m_1282 rfl rfl rfl rfl rfl (Nat.le_of_ble_eq_true rfl) rfl dX12_init_329 (fun H locs hW => ?_)
  refine lv_aload_n (pc := 332) hx hb dX12_init_332 rfl (lv_at hl 0 rfl) ?_
  refine lv_bipush (v := 7) (pc := 333) hx hb dX12_init_333 (by decide) ?_
  refine r_newa (a0 := (7, .inl (fun _ => 0))) X hW .int rfl m_47 1 rfl (by intro C h; cases h) (fun _ => rfl) (by decide) (by decide) (Nat.le_of_ble_eq_true rfl) ⟨Nat.le_of_ble_eq_true rfl, Nat.le_of_ble_eq_true rfl⟩ dX12_init_335 (fun q39 H hW => ?_)
  have hW : WD g A s _ _ [(h0, .inr (12, [.int 0, .ref q1, .int 0, .int 0, .int 0, .int 0, .ref q2, .ref q3, .ref q4, .ref q5, .ref q6, .ref q7, .ref q8, .ref q9, .ref q10, .ref q11, .ref q12, .ref q13, .int 0, .int (-1), .int (-1), .ref q14, .ref q15, .ref q16, .ref q17, .ref q18, .ref q19, .int 0, .ref q20, .ref q21, .ref q22, .ref q23, .ref q24, .ref q25, .ref q26, .ref q27, .ref q28, .int 0, .int 0, .int 0, .int 0, .int 0, .int 0, .int 0, .int 0, .int 0, .ref q29, .ref q30, .ref q31, .ref q32, .ref q33, .ref q34, .ref q35, .ref q36, .ref q37, .ref q38, .null, .null, .null, .null, .null, .null, .null, .null])), (q1, .inl (g.2.1 0, 400, .inl (fun _ => 0))), (q3, .inl (g.2.1 1, 11, .inl (fun _ => 0))), (q4, .inl (g.2.1 1, 11, .inl (fun _ => 0))), (q5, .inl (g.2.1 1, 44, .inl (fun _ => 0))), (q6, .inl (g.2.1 1, 44, .inl (fun _ => 0))), (q7, .inl (g.2.1 1, 44, .inl (fun _ => 0)))] := hW.pick [0, 1, 2, 3, 4, 5, 6] rfl rfl
  refine r_putF (ws' := [(h0, .inr (12, [.int 0, .ref q1, .int 0, .int 0, .int 0, .int 0, .ref q2, .ref q3, .ref q4, .ref q5, .ref q6, .ref q7, .ref q8, .ref q9, .ref q10, .ref q11, .ref q12, .ref q13, .int 0, .int (-1), .int (-1), .ref q14, .ref q15, .ref q16, .ref q17, .ref q18, .ref q19, .int 0, .ref q20, .ref q21, .ref q22, .ref q23, .ref q24, .ref q25, .ref q26, .ref q27, .ref q28, .int 0, .int 0, .int 0, .int 0, .int 0, .int 0, .int 0, .int 0, .int 0, .ref q29, .ref q30, .ref q31, .ref q32, .ref q33, .ref q34, .ref q35, .ref q36, .ref q37, .ref q38, .ref q39, .null, .null, .null, .null, .null, .null, .null])), (q1, .inl (g.2.1 0, 400, .inl (fun _ => 0))), (q3, .inl (g.2.1 1, 11, .inl (fun _ => 0))), (q4, .inl (g.2.1 1, 11, .inl (fun _ => 0))), (q5, .inl (g.2.1 1, 44, .inl (fun _ => 0))), (q6, .inl (g.2.1 1, 44, .inl (fun _ => 0))), (q7, .inl (g.2.1 1, 44, .inl (fun _ => 0)))]) X hin hW 0 ciX12 56 rfl (by decide) m_1283 rfl rfl rfl rfl rfl (Nat.le_of_ble_eq_true rfl) rfl dX12_init_337 (fun H locs hW => ?_)
  refine lv_aload_n (pc := 340) hx hb dX12_init_340 rfl (lv_at hl 0 rfl) ?_
  refine lv_bipush (v := 7) (pc := 341) hx hb dX12_init_341 (by decide) ?_
  refine r_newa (a0 := (7, .inl (fun _ => 0))) X hW .int rfl m_47 1 rfl (by intro C h; cases h) (fun _ => rfl) (by decide) (by decide) (Nat.le_of_ble_eq_true rfl) ⟨Nat.le_of_ble_eq_true rfl, Nat.le_of_ble_eq_true rfl⟩ dX12_init_343 (fun q40 H hW => ?_)
  have hW : WD g A s _ _ [(h0, .inr (12, [.int 0, .ref q1, .int 0, .int 0, .int 0, .int 0, .ref q2, .ref q3, .ref q4, .ref q5, .ref q6, .ref q7, .ref q8, .ref q9, .ref q10, .ref q11, .ref q12, .ref q13, .int 0, .int (-1), .int (-1), .ref q14, .ref q15, .ref q16, .ref q17, .ref q18, .ref q19, .int 0, .ref q20, .ref q21, .ref q22, .ref q23, .ref q24, .ref q25, .ref q26, .ref q27, .ref q28, .int 0, .int 0, .int 0, .int 0, .int 0, .int 0, .int 0, .int 0, .int 0, .ref q29, .ref q30, .ref q31, .ref q32, .ref q33, .ref q34, .ref q35, .ref q36, .ref q37, .ref q38, .ref q39, .null, .null, .null, .null, .null, .null, .null])), (q1, .inl (g.2.1 0, 400, .inl (fun _ => 0))), (q3, .inl (g.2.1 1, 11, .inl (fun _ => 0))), (q4, .inl (g.2.1 1, 11, .inl (fun _ => 0))), (q5, .inl (g.2.1 1, 44, .inl (fun _ => 0))), (q6, .inl (g.2.1 1, 44, .inl (fun _ => 0))), (q7, .inl (g.2.1 1, 44, .inl (fun _ => 0)))] := hW.pick [0, 1, 2, 3, 4, 5, 6] rfl rfl
  refine r_putF (ws' := [(h0, .inr (12, [.int 0, .ref q1, .int 0, .int 0, .int 0, .int 0, .ref q2, .ref q3, .ref q4, .ref q5, .ref q6, .ref q7, .ref q8, .ref q9, .ref q10, .ref q11, .ref q12, .ref q13, .int 0, .int (-1), .int (-1), .ref q14, .ref q15, .ref q16, .ref q17, .ref q18, .ref q19, .int 0, .ref q20, .ref q21, .ref q22, .ref q23, .ref q24, .ref q25, .ref q26, .ref q27, .ref q28, .int 0, .int 0, .int 0, .int 0, .int 0, .int 0, .int 0, .int 0, .int 0, .ref q29, .ref q30, .ref q31, .ref q32, .ref q33, .ref q34, .ref q35, .ref q36, .ref q37, .ref q38, .ref q39, .ref q40, .null, .null, .null, .null, .null, .null])), (q1, .inl (g.2.1 0, 400, .inl (fun _ => 0))), (q3, .inl (g.2.1 1, 11, .inl (fun _ => 0))), (q4, .inl (g.2.1 1, 11, .inl (fun _ => 0))), (q5, .inl (g.2.1 1, 44, .inl (fun _ => 0))), (q6, .inl (g.2.1 1, 44, .inl (fun _ => 0))), (q7, .inl (g.2.1 1, 44, .inl (fun _ => 0)))]) X hin hW 0 ciX12 57 rfl (by decide) m_1284 rfl rfl rfl rfl rfl (Nat.le_of_ble_eq_true rfl) rfl dX12_init_345 (fun H locs hW => ?_)
  refine lv_aload_n (pc := 348) hx hb dX12_init_348 rfl (lv_at hl 0 rfl) ?_
  refine lv_iconst (v := 3) (pc := 349) hx hb dX12_init_349 (by decide) ?_
  refine r_newa (a0 := (3, .inl (fun _ => 0))) X hW .int rfl m_47 1 rfl (by intro C h; cases h) (fun _ => rfl) (by decide) (by decide) (Nat.le_of_ble_eq_true rfl) ⟨Nat.le_of_ble_eq_true rfl, Nat.le_of_ble_eq_true rfl⟩ dX12_init_350 (fun q41 H hW => ?_)
  have hW : WD g A s _ _ [(h0, .inr (12, [.int 0, .ref q1, .int 0, .int 0, .int 0, .int 0, .ref q2, .ref q3, .ref q4, .ref q5, .ref q6, .ref q7, .ref q8, .ref q9, .ref q10, .ref q11, .ref q12, .ref q13, .int 0, .int (-1), .int (-1), .ref q14, .ref q15, .ref q16, .ref q17, .ref q18, .ref q19, .int 0, .ref q20, .ref q21, .ref q22, .ref q23, .ref q24, .ref q25, .ref q26, .ref q27, .ref q28, .int 0, .int 0, .int 0, .int 0, .int 0, .int 0, .int 0, .int 0, .int 0, .ref q29, .ref q30, .ref q31, .ref q32, .ref q33, .ref q34, .ref q35, .ref q36, .ref q37, .ref q38, .ref q39, .ref q40, .null, .null, .null, .null, .null, .null])), (q1, .inl (g.2.1 0, 400, .inl (fun _ => 0))), (q3, .inl (g.2.1 1, 11, .inl (fun _ => 0))), (q4, .inl (g.2.1 1, 11, .inl (fun _ => 0))), (q5, .inl (g.2.1 1, 44, .inl (fun _ => 0))), (q6, .inl (g.2.1 1, 44, .inl (fun _ => 0))), (q7, .inl (g.2.1 1, 44, .inl (fun _ => 0)))] := hW.pick [0, 1, 2, 3, 4, 5, 6] rfl rfl
  refine r_putF (ws' := [(h0, .inr (12, [.int 0, .ref q1, .int 0, .int 0, .int 0, .int 0, .ref q2, .ref q3, .ref q4, .ref q5, .ref q6, .ref q7, .ref q8, .ref q9, .ref q10, .ref q11, .ref q12, .ref q13, .int 0, .int (-1), .int (-1), .ref q14, .ref q15, .ref q16, .ref q17, .ref q18, .ref q19, .int 0, .ref q20, .ref q21, .ref q22, .ref q23, .ref q24, .ref q25, .ref q26, .ref q27, .ref q28, .int 0, .int 0, .int 0, .int 0, .int 0, .int 0, .int 0, .int 0, .int 0, .ref q29, .ref q30, .ref q31, .ref q32, .ref q33, .ref q34, .ref q35, .ref q36, .ref q37, .ref q38, .ref q39, .ref q40, .ref q41, .null, .null, .null, .null, .null])), (q1, .inl (g.2.1 0, 400, .inl (fun _ => 0))), (q3, .inl (g.2.1 1, 11, .inl (fun _ => 0))), (q4, .inl (g.2.1 1, 11, .inl (fun _ => 0))), (q5, .inl (g.2.1 1, 44, .inl (fun _ => 0))), (q6, .inl (g.2.1 1, 44, .inl (fun _ => 0))), (q7, .inl (g.2.1 1, 44, .inl (fun _ => 0)))]) X hin hW 0 ciX12 58 rfl (by decide) m_1285 rfl rfl rfl rfl rfl (Nat.le_of_ble_eq_true rfl) rfl dX12_init_352 (fun H locs hW => ?_)
  refine lv_aload_n (pc := 355) hx hb dX12_init_355 rfl (lv_at hl 0 rfl) ?_
  refine lv_bipush (v := 16) (pc := 356) hx hb dX12_init_356 (by decide) ?_
  refine r_newa (a0 := (16, .inr (.inl (fun _ => 0)))) X hW .long rfl m_266 2 rfl (by intro C h; cases h) (fun _ => rfl) (by decide) (by decide) (Nat.le_of_ble_eq_true rfl) ⟨Nat.le_of_ble_eq_true rfl, Nat.le_of_ble_eq_true rfl⟩ dX12_init_358 (fun q42 H hW => ?_)
  have hW : WD g A s _ _ [(h0, .inr (12, [.int 0, .ref q1, .int 0, .int 0, .int 0, .int 0, .ref q2, .ref q3, .ref q4, .ref q5, .ref q6, .ref q7, .ref q8, .ref q9, .ref q10, .ref q11, .ref q12, .ref q13, .int 0, .int (-1), .int (-1), .ref q14, .ref q15, .ref q16, .ref q17, .ref q18, .ref q19, .int 0, .ref q20, .ref q21, .ref q22, .ref q23, .ref q24, .ref q25, .ref q26, .ref q27, .ref q28, .int 0, .int 0, .int 0, .int 0, .int 0, .int 0, .int 0, .int 0, .int 0, .ref q29, .ref q30, .ref q31, .ref q32, .ref q33, .ref q34, .ref q35, .ref q36, .ref q37, .ref q38, .ref q39, .ref q40, .ref q41, .null, .null, .null, .null, .null])), (q1, .inl (g.2.1 0, 400, .inl (fun _ => 0))), (q3, .inl (g.2.1 1, 11, .inl (fun _ => 0))), (q4, .inl (g.2.1 1, 11, .inl (fun _ => 0))), (q5, .inl (g.2.1 1, 44, .inl (fun _ => 0))), (q6, .inl (g.2.1 1, 44, .inl (fun _ => 0))), (q7, .inl (g.2.1 1, 44, .inl (fun _ => 0))), (q42, .inl (g.2.1 2, 16, .inr (.inl (fun _ => 0))))] := hW
  refine r_putF (ws' := [(h0, .inr (12, [.int 0, .ref q1, .int 0, .int 0, .int 0, .int 0, .ref q2, .ref q3, .ref q4, .ref q5, .ref q6, .ref q7, .ref q8, .ref q9, .ref q10, .ref q11, .ref q12, .ref q13, .int 0, .int (-1), .int (-1), .ref q14, .ref q15, .ref q16, .ref q17, .ref q18, .ref q19, .int 0, .ref q20, .ref q21, .ref q22, .ref q23, .ref q24, .ref q25, .ref q26, .ref q27, .ref q28, .int 0, .int 0, .int 0, .int 0, .int 0, .int 0, .int 0, .int 0, .int 0, .ref q29, .ref q30, .ref q31, .ref q32, .ref q33, .ref q34, .ref q35, .ref q36, .ref q37, .ref q38, .ref q39, .ref q40, .ref q41, .ref q42, .null, .null, .null, .null])), (q1, .inl (g.2.1 0, 400, .inl (fun _ => 0))), (q3, .inl (g.2.1 1, 11, .inl (fun _ => 0))), (q4, .inl (g.2.1 1, 11, .inl (fun _ => 0))), (q5, .inl (g.2.1 1, 44, .inl (fun _ => 0))), (q6, .inl (g.2.1 1, 44, .inl (fun _ => 0))), (q7, .inl (g.2.1 1, 44, .inl (fun _ => 0))), (q42, .inl (g.2.1 2, 16, .inr (.inl (fun _ => 0))))]) X hin hW 0 ciX12 59 rfl (by decide) m_1286 rfl rfl rfl rfl rfl (Nat.le_of_ble_eq_true rfl) rfl dX12_init_360 (fun H locs hW => ?_)
  refine lv_aload_n (pc := 363) hx hb dX12_init_363 rfl (lv_at hl 0 rfl) ?_
  refine lv_bipush (v := 16) (pc := 364) hx hb dX12_init_364 (by decide) ?_
  refine r_newa (a0 := (16, .inr (.inl (fun _ => 0)))) X hW .long rfl m_266 2 rfl (by intro C h; cases h) (fun _ => rfl) (by decide) (by decide) (Nat.le_of_ble_eq_true rfl) ⟨Nat.le_of_ble_eq_true rfl, Nat.le_of_ble_eq_true rfl⟩ dX12_init_366 (fun q43 H hW => ?_)
  have hW : WD g A s _ _ [(h0, .inr (12, [.int 0, .ref q1, .int 0, .int 0, .int 0, .int 0, .ref q2, .ref q3, .ref q4, .ref q5, .ref q6, .ref q7, .ref q8, .ref q9, .ref q10, .ref q11, .ref q12, .ref q13, .int 0, .int (-1), .int (-1), .ref q14, .ref q15, .ref q16, .ref q17, .ref q18, .ref q19, .int 0, .ref q20, .ref q21, .ref q22, .ref q23, .ref q24, .ref q25, .ref q26, .ref q27, .ref q28, .int 0, .int 0, .int 0, .int 0, .int 0, .int 0, .int 0, .int 0, .int 0, .ref q29, .ref q30, .ref q31, .ref q32, .ref q33, .ref q34, .ref q35, .ref q36, .ref q37, .ref q38, .ref q39, .ref q40, .ref q41, .ref q42, .null, .null, .null, .null])), (q1, .inl (g.2.1 0, 400, .inl (fun _ => 0))), (q3, .inl (g.2.1 1, 11, .inl (fun _ => 0))), (q4, .inl (g.2.1 1, 11, .inl (fun _ => 0))), (q5, .inl (g.2.1 1, 44, .inl (fun _ => 0))), (q6, .inl (g.2.1 1, 44, .inl (fun _ => 0))), (q7, .inl (g.2.1 1, 44, .inl (fun _ => 0))), (q42, .inl (g.2.1 2, 16, .inr (.inl (fun _ => 0)))), (q43, .inl (g.2.1 2, 16, .inr (.inl (fun _ => 0))))] := hW
  refine r_putF (ws' := [(h0, .inr (12, [.int 0, .ref q1, .int 0, .int 0, .int 0, .int 0, .ref q2, .ref q3, .ref q4, .ref q5, .ref q6, .ref q7, .ref q8, .ref q9, .ref q10, .ref q11, .ref q12, .ref q13, .int 0, .int (-1), .int (-1), .ref q14, .ref q15, .ref q16, .ref q17, .ref q18, .ref q19, .int 0, .ref q20, .ref q21, .ref q22, .ref q23, .ref q24, .ref q25, .ref q26, .ref q27, .ref q28, .int 0, .int 0, .int 0, .int 0, .int 0, .int 0, .int 0, .int 0, .int 0, .ref q29, .ref q30, .ref q31, .ref q32, .ref q33, .ref q34, .ref q35, .ref q36, .ref q37, .ref q38, .ref q39, .ref q40, .ref q41, .ref q42, .ref q43, .null, .null, .null])), (q1, .inl (g.2.1 0, 400, .inl (fun _ => 0))), (q3, .inl (g.2.1 1, 11, .inl (fun _ => 0))), (q4, .inl (g.2.1 1, 11, .inl (fun _ => 0))), (q5, .inl (g.2.1 1, 44, .inl (fun _ => 0))), (q6, .inl (g.2.1 1, 44, .inl (fun _ => 0))), (q7, .inl (g.2.1 1, 44, .inl (fun _ => 0))), (q42, .inl (g.2.1 2, 16, .inr (.inl (fun _ => 0)))), (q43, .inl (g.2.1 2, 16, .inr (.inl (fun _ => 0))))]) X hin hW 0 ciX12 60 rfl (by decide) m_1287 rfl rfl rfl rfl rfl (Nat.le_of_ble_eq_true rfl) rfl dX12_init_368 (fun H locs hW => ?_)
  refine lv_aload_n (pc := 371) hx hb dX12_init_371 rfl (lv_at hl 0 rfl) ?_
  refine lv_sipush (v := 308) (pc := 372) hx hb dX12_init_372 (by decide) ?_
  refine r_newa (a0 := (308, .inl (fun _ => 0))) X hW .int rfl m_47 1 rfl (by intro C h; cases h) (fun _ => rfl) (by decide) (by decide) (Nat.le_of_ble_eq_true rfl) ⟨Nat.le_of_ble_eq_true rfl, Nat.le_of_ble_eq_true rfl⟩ dX12_init_375 (fun q44 H hW => ?_)
  have hW : WD g A s _ _ [(h0, .inr (12, [.int 0, .ref q1, .int 0, .int 0, .int 0, .int 0, .ref q2, .ref q3, .ref q4, .ref q5, .ref q6, .ref q7, .ref q8, .ref q9, .ref q10, .ref q11, .ref q12, .ref q13, .int 0, .int (-1), .int (-1), .ref q14, .ref q15, .ref q16, .ref q17, .ref q18, .ref q19, .int 0, .ref q20, .ref q21, .ref q22, .ref q23, .ref q24, .ref q25, .ref q26, .ref q27, .ref q28, .int 0, .int 0, .int 0, .int 0, .int 0, .int 0, .int 0, .int 0, .int 0, .ref q29, .ref q30, .ref q31, .ref q32, .ref q33, .ref q34, .ref q35, .ref q36, .ref q37, .ref q38, .ref q39, .ref q40, .ref q41, .ref q42, .ref q43, .null, .null, .null])), (q1, .inl (g.2.1 0, 400, .inl (fun _ => 0))), (q3, .inl (g.2.1 1, 11, .inl (fun _ => 0))), (q4, .inl (g.2.1 1, 11, .inl (fun _ => 0))), (q5, .inl (g.2.1 1, 44, .inl (fun _ => 0))), (q6, .inl (g.2.1 1, 44, .inl (fun _ => 0))), (q7, .inl (g.2.1 1, 44, .inl (fun _ => 0))), (q42, .inl (g.2.1 2, 16, .inr (.inl (fun _ => 0)))), (q43, .inl (g.2.1 2, 16, .inr (.inl (fun _ => 0))))] := hW.pick [0, 1, 2, 3, 4, 5, 6, 7, 8] rfl rfl
  refine r_putF (ws' := [(h0, .inr (12, [.int 0, .ref q1, .int 0, .int 0, .int 0, .int 0, .ref q2, .ref q3, .ref q4, .ref q5, .ref q6, .ref q7, .ref q8, .ref q9, .ref q10, .ref q11, .ref q12, .ref q13, .int 0, .int (-1), .int (-1), .ref q14, .ref q15, .ref q16, .ref q17, .ref q18, .ref q19, .int 0, .ref q20, .ref q21, .ref q22, .ref q23, .ref q24, .ref q25, .ref q26, .ref q27, .ref q28, .int 0, .int 0, .int 0, .int 0, .int 0, .int 0, .int 0, .int 0, .int 0, .ref q29, .ref q30, .ref q31, .ref q32, .ref q33, .ref q34, .ref q35, .ref q36, .ref q37, .ref q38, .ref q39, .ref q40, .ref q41, .ref q42, .ref q43, .ref q44, .null, .null])), (q1, .inl (g.2.1 0, 400, .inl (fun _ => 0))), (q3, .inl (g.2.1 1, 11, .inl (fun _ => 0))), (q4, .inl (g.2.1 1, 11, .inl (fun _ => 0))), (q5, .inl (g.2.1 1, 44, .inl (fun _ => 0))), (q6, .inl (g.2.1 1, 44, .inl (fun _ => 0))), (q7, .inl (g.2.1 1, 44, .inl (fun _ => 0))), (q42, .inl (g.2.1 2, 16, .inr (.inl (fun _ => 0)))), (q43, .inl (g.2.1 2, 16, .inr (.inl (fun _ => 0))))]) X hin hW 0 ciX12 61 rfl (by decide) m_1288 rfl rfl rfl rfl rfl (Nat.le_of_ble_eq_true rfl) rfl dX12_init_377 (fun H locs hW => ?_)
  refine lv_aload_n (pc := 380) hx hb dX12_init_380 rfl (lv_at hl 0 rfl) ?_
  refine lv_sipush (v := 16384) (pc := 381) hx hb dX12_init_381 (by decide) ?_
  refine r_newa (a0 := (16384, .inl (fun _ => 0))) X hW .boolean rfl m_109 3 rfl (by intro C h; cases h) (fun _ => rfl) (by decide) (by decide) (Nat.le_of_ble_eq_true rfl) ⟨Nat.le_of_ble_eq_true rfl, Nat.le_of_ble_eq_true rfl⟩ dX12_init_384 (fun q45 H hW => ?_)
  have hW : WD g A s _ _ [(h0, .inr (12, [.int 0, .ref q1, .int 0, .int 0, .int 0, .int 0, .ref q2, .ref q3, .ref q4, .ref q5, .ref q6, .ref q7, .ref q8, .ref q9, .ref q10, .ref q11, .ref q12, .ref q13, .int 0, .int (-1), .int (-1), .ref q14, .ref q15, .ref q16, .ref q17, .ref q18, .ref q19, .int 0, .ref q20, .ref q21, .ref q22, .ref q23, .ref q24, .ref q25, .ref q26, .ref q27, .ref q28, .int 0, .int 0, .int 0, .int 0, .int 0, .int 0, .int 0, .int 0, .int 0, .ref q29, .ref q30, .ref q31, .ref q32, .ref q33, .ref q34, .ref q35, .ref q36, .ref q37, .ref q38, .ref q39, .ref q40, .ref q41, .ref q42, .ref q43, .ref q44, .null, .null])), (q1, .inl (g.2.1 0, 400, .inl (fun _ => 0))), (q3, .inl (g.2.1 1, 11, .inl (fun _ => 0))), (q4, .inl (g.2.1 1, 11, .inl (fun _ => 0))), (q5, .inl (g.2.1 1, 44, .inl (fun _ => 0))), (q6, .inl (g.2.1 1, 44, .inl (fun _ => 0))), (q7, .inl (g.2.1 1, 44, .inl (fun _ => 0))), (q42, .inl (g.2.1 2, 16, .inr (.inl (fun _ => 0)))), (q43, .inl (g.2.1 2, 16, .inr (.inl (fun _ => 0))))] := hW.pick [0, 1, 2, 3, 4, 5, 6, 7, 8] rfl rfl
  refine r_putF (ws' := [(h0, .inr (12, [.int 0, .ref q1, .int 0, .int 0, .int 0, .int 0, .ref q2, .ref q3, .ref q4, .ref q5, .ref q6, .ref q7, .ref q8, .ref q9, .ref q10, .ref q11, .ref q12, .ref q13, .int 0, .int (-1), .int (-1), .ref q14, .ref q15, .ref q16, .ref q17, .ref q18, .ref q19, .int 0, .ref q20, .ref q21, .ref q22, .ref q23, .ref q24, .ref q25, .ref q26, .ref q27, .ref q28, .int 0, .int 0, .int 0, .int 0, .int 0, .int 0, .int 0, .int 0, .int 0, .ref q29, .ref q30, .ref q31, .ref q32, .ref q33, .ref q34, .ref q35, .ref q36, .ref q37, .ref q38, .ref q39, .ref q40, .ref q41, .ref q42, .ref q43, .ref q44, .ref q45, .null])), (q1, .inl (g.2.1 0, 400, .inl (fun _ => 0))), (q3, .inl (g.2.1 1, 11, .inl (fun _ => 0))), (q4, .inl (g.2.1 1, 11, .inl (fun _ => 0))), (q5, .inl (g.2.1 1, 44, .inl (fun _ => 0))), (q6, .inl (g.2.1 1, 44, .inl (fun _ => 0))), (q7, .inl (g.2.1 1, 44, .inl (fun _ => 0))), (q42, .inl (g.2.1 2, 16, .inr (.inl (fun _ => 0)))), (q43, .inl (g.2.1 2, 16, .inr (.inl (fun _ => 0))))]) X hin hW 0 ciX12 62 rfl (by decide) m_1289 rfl rfl rfl rfl rfl (Nat.le_of_ble_eq_true rfl) rfl dX12_init_386 (fun H locs hW => ?_)
  refine lv_aload_n (pc := 389) hx hb dX12_init_389 rfl (lv_at hl 0 rfl) ?_
  refine lv_sipush (v := 16384) (pc := 390) hx hb dX12_init_390 (by decide) ?_
  refine r_newa (a0 := (16384, .inl (fun _ => 0))) X hW .boolean rfl m_109 3 rfl (by intro C h; cases h) (fun _ => rfl) (by decide) (by decide) (Nat.le_of_ble_eq_true rfl) ⟨Nat.le_of_ble_eq_true rfl, Nat.le_of_ble_eq_true rfl⟩ dX12_init_393 (fun q46 H hW => ?_)
  have hW : WD g A s _ _ [(h0, .inr (12, [.int 0, .ref q1, .int 0, .int 0, .int 0, .int 0, .ref q2, .ref q3, .ref q4, .ref q5, .ref q6, .ref q7, .ref q8, .ref q9, .ref q10, .ref q11, .ref q12, .ref q13, .int 0, .int (-1), .int (-1), .ref q14, .ref q15, .ref q16, .ref q17, .ref q18, .ref q19, .int 0, .ref q20, .ref q21, .ref q22, .ref q23, .ref q24, .ref q25, .ref q26, .ref q27, .ref q28, .int 0, .int 0, .int 0, .int 0, .int 0, .int 0, .int 0, .int 0, .int 0, .ref q29, .ref q30, .ref q31, .ref q32, .ref q33, .ref q34, .ref q35, .ref q36, .ref q37, .ref q38, .ref q39, .ref q40, .ref q41, .ref q42, .ref q43, .ref q44, .ref q45, .null])), (q1, .inl (g.2.1 0, 400, .inl (fun _ => 0))), (q3, .inl (g.2.1 1, 11, .inl (fun _ => 0))), (q4, .inl (g.2.1 1, 11, .inl (fun _ => 0))), (q5, .inl (g.2.1 1, 44, .inl (fun _ => 0))), (q6, .inl (g.2.1 1, 44, .inl (fun _ => 0))), (q7, .inl (g.2.1 1, 44, .inl (fun _ => 0))), (q42, .inl (g.2.1 2, 16, .inr (.inl (fun _ => 0)))), (q43, .inl (g.2.1 2, 16, .inr (.inl (fun _ => 0))))] := hW.pick [0, 1, 2, 3, 4, 5, 6, 7, 8] rfl rfl
  refine r_putF (ws' := [(h0, .inr (12, [.int 0, .ref q1, .int 0, .int 0, .int 0, .int 0, .ref q2, .ref q3, .ref q4, .ref q5, .ref q6, .ref q7, .ref q8, .ref q9, .ref q10, .ref q11, .ref q12, .ref q13, .int 0, .int (-1), .int (-1), .ref q14, .ref q15, .ref q16, .ref q17, .ref q18, .ref q19, .int 0, .ref q20, .ref q21, .ref q22, .ref q23, .ref q24, .ref q25, .ref q26, .ref q27, .ref q28, .int 0, .int 0, .int 0, .int 0, .int 0, .int 0, .int 0, .int 0, .int 0, .ref q29, .ref q30, .ref q31, .ref q32, .ref q33, .ref q34, .ref q35, .ref q36, .ref q37, .ref q38, .ref q39, .ref q40, .ref q41, .ref q42, .ref q43, .ref q44, .ref q45, .ref q46])), (q1, .inl (g.2.1 0, 400, .inl (fun _ => 0))), (q3, .inl (g.2.1 1, 11, .inl (fun _ => 0))), (q4, .inl (g.2.1 1, 11, .inl (fun _ => 0))), (q5, .inl (g.2.1 1, 44, .inl (fun _ => 0))), (q6, .inl (g.2.1 1, 44, .inl (fun _ => 0))), (q7, .inl (g.2.1 1, 44, .inl (fun _ => 0))), (q42, .inl (g.2.1 2, 16, .inr (.inl (fun _ => 0)))), (q43, .inl (g.2.1 2, 16, .inr (.inl (fun _ => 0))))]) X hin hW 0 ciX12 63 rfl (by decide) m_1290 rfl rfl rfl rfl rfl (Nat.le_of_ble_eq_true rfl) rfl dX12_init_395 (fun H locs hW => ?_)
  exact e_v X hQ hr hW (u := [(h0, .inr (12, [.int 0, .ref q1, .int 0, .int 0, .int 0, .int 0, .ref q2, .ref q3, .ref q4, .ref q5, .ref q6, .ref q7, .ref q8, .ref q9, .ref q10, .ref q11, .ref q12, .ref q13, .int 0, .int (-1), .int (-1), .ref q14, .ref q15, .ref q16, .ref q17, .ref q18, .ref q19, .int 0, .ref q20, .ref q21, .ref q22, .ref q23, .ref q24, .ref q25, .ref q26, .ref q27, .ref q28, .int 0, .int 0, .int 0, .int 0, .int 0, .int 0, .int 0, .int 0, .int 0, .ref q29, .ref q30, .ref q31, .ref q32, .ref q33, .ref q34, .ref q35, .ref q36, .ref q37, .ref q38, .ref q39, .ref q40, .ref q41, .ref q42, .ref q43, .ref q44, .ref q45, .ref q46])), (q1, .inl (g.2.1 0, 400, .inl (fun _ => 0))), (q3, .inl (g.2.1 1, 11, .inl (fun _ => 0))), (q4, .inl (g.2.1 1, 11, .inl (fun _ => 0))), (q5, .inl (g.2.1 1, 44, .inl (fun _ => 0))), (q6, .inl (g.2.1 1, 44, .inl (fun _ => 0))), (q7, .inl (g.2.1 1, 44, .inl (fun _ => 0))), (q42, .inl (g.2.1 2, 16, .inr (.inl (fun _ => 0)))), (q43, .inl (g.2.1 2, 16, .inr (.inl (fun _ => 0))))]) [0, 1, 2, 3, 4, 5, 6, 7, 8] rfl rfl (⟨q1, q2, q3, q4, q5, q6, q7, q8, q9, q10, q11, q12, q13, q14, q15, q16, q17, q18, q19, q20, q21, q22, q23, q24, q25, q26, q27, q28, q29, q30, q31, q32, q33, q34, q35, q36, q37, q38, q39, q40, q41, q42, q43, q44, q45, q46, rfl⟩) ⟨Nat.le_of_ble_eq_true rfl, Nat.le_of_ble_eq_true rfl⟩ dX12_init_398

/-- base 3: the places of Spreading's tables -/
def pw3 : Nat → Nat → Nat
  | 0, _ => 0
  | k + 1, j => j % 2 + 3 * pw3 k (j / 2)
theorem pw3_step : ∀ i, i < 128 → pw3 7 i = i % 2 + 3 * pw3 7 (i / 2) := by decide +kernel
theorem pw3_in : ∀ k, k < 128 → ∀ o, o < 128 → k &&& o = 0 → 2 * pw3 7 k + pw3 7 o < 2187 := by decide +kernel
theorem ge_t {i k : Nat} (hi : i < 2 ^ 31) (hk : k < 2 ^ 31) (h : nI k ≤ nI i) : k ≤ i := (nI_leI hk hi).mp h
theorem ge_f {i k : Nat} (hi : i < 2 ^ 31) (hk : k < 2 ^ 31) (h : ¬ nI k ≤ nI i) : i < k := Nat.not_le.mp fun q => h ((nI_leI hk hi).mpr q)
theorem lt_t {i k : Nat} (hi : i < 2 ^ 31) (hk : k < 2 ^ 31) (h : nI i < nI k) : i < k := (nI_ltI hi hk).mp h
theorem lt_f {i k : Nat} (hi : i < 2 ^ 31) (hk : k < 2 ^ 31) (h : ¬ nI i < nI k) : k ≤ i := Nat.not_lt.mp fun q => h ((nI_ltI hi hk).mpr q)
theorem upd_at {f f' : Nat → Int32} {i : Nat} {x : Int32} (hi : i < 2 ^ 31) (e : upd f (nI i).toNatClampNeg x = f') (j : Nat) : f' j = if j = i then x else f j := by
  rw [nI_clamp hi] at e
  rw [← e]
  by_cases h : j = i
  · subst h; simp [upd]
  · simp [upd, h]
theorem updL_at {f f' : Nat → Int64} {i : Nat} {x : Int64} (hi : i < 2 ^ 31) (e : vp_updL f (nI i).toNatClampNeg x = f') (j : Nat) : f' j = if j = i then x else f j := by
  rw [nI_clamp hi] at e
  rw [← e]
  by_cases h : j = i
  · subst h; simp [vp_updL]
  · simp [vp_updL, h]
theorem m_112 : (Cond.code yX7_state prog_9_method_2_code 2 (Option.some FieldType.int)) ∈ BW := bw (tb1 112 rfl) (by decide +kernel)
theorem dX7_state_0 : decode cX7_state 0 = .ok (.iload_n 0, 1) := DX7_state _ _ _ rfl
theorem dX7_state_1 : decode cX7_state 1 = .ok (.iload_n 1, 1) := DX7_state _ _ _ rfl
theorem dX7_state_2 : decode cX7_state 2 = .ok (.bipush 7, 2) := DX7_state _ _ _ rfl
theorem dX7_state_4 : decode cX7_state 4 = .ok (.ishl, 1) := DX7_state _ _ _ rfl
theorem dX7_state_5 : decode cX7_state 5 = .ok (.ior, 1) := DX7_state _ _ _ rfl
theorem dX7_state_6 : decode cX7_state 6 = .ok (.ireturn, 1) := DX7_state _ _ _ rfl
theorem m_79 : (Cond.code yX7_init prog_9_method_1_code 3 (Option.none : Option Jvm.ClassFile.FieldType)) ∈ BW := bw (tb1 79 rfl) (by decide +kernel)
theorem dX7_init_0 : decode cX7_init 0 = .ok (.aload_n 0, 1) := DX7_init _ _ _ rfl
theorem m_80 : (Cond.methodLink "NoonValley$Spreading" 3 objectInit) ∈ BW := bw (tb1 80 (by decide +kernel)) (by decide +kernel)
theorem dX7_init_1 : decode cX7_init 1 = .ok (.invokespecial 3, 3) := DX7_init _ _ _ rfl
theorem dX7_init_4 : decode cX7_init 4 = .ok (.aload_n 0, 1) := DX7_init _ _ _ rfl
theorem m_81 : (Cond.classLink "NoonValley$Spreading" 9 "NoonValley$Rows") ∈ BW := bw (tb1 81 (by decide +kernel)) (by decide +kernel)
theorem m_82 : (Cond.instantiable "NoonValley$Rows" 6) ∈ BW := bw (tb1 82 (by decide +kernel)) (by decide +kernel)
theorem m_5 : (Cond.initialized "NoonValley$Rows") ∈ BW := bw (tb1 5 (by decide +kernel)) (by decide +kernel)
theorem dX7_init_5 : decode cX7_init 5 = .ok (.new 9, 3) := DX7_init _ _ _ rfl
theorem dX7_init_8 : decode cX7_init 8 = .ok (.dup, 1) := DX7_init _ _ _ rfl
theorem m_83 : (Cond.methodLinkNest "NoonValley$Spreading" 11 yX5_init "NoonValley") ∈ NWS := nw (tb1 83 (by decide +kernel)) (by decide +kernel)
theorem m_84 : (Cond.instanceMethod yX5_init) ∈ BW := bw (tb1 84 (by decide +kernel)) (by decide +kernel)
theorem vX7_11 : LIN RX7 11 "NoonValley" yX5_init cX5_init 1 0 := ⟨m_83, m_84, m_5, m_85, rfl, by decide, by decide, by decide +kernel⟩
theorem dX7_init_9 : decode cX7_init 9 = .ok (.invokespecial 11, 3) := DX7_init _ _ _ rfl
theorem m_133 : (Cond.laysFinal "NoonValley$Spreading" "NoonValley$Spreading" "rows" "LNoonValley$Rows;") ∈ BW := bw (tb1 133 (by decide +kernel)) (by decide +kernel)
theorem m_135 : (Cond.lays "NoonValley$Spreading" "NoonValley$Spreading" "people" "I") ∈ BW := bw (tb1 135 (by decide +kernel)) (by decide +kernel)
theorem m_137 : (Cond.lays "NoonValley$Spreading" "NoonValley$Spreading" "deaf" "I") ∈ BW := bw (tb1 137 (by decide +kernel)) (by decide +kernel)
theorem m_139 : (Cond.lays "NoonValley$Spreading" "NoonValley$Spreading" "takingPart" "I") ∈ BW := bw (tb1 139 (by decide +kernel)) (by decide +kernel)
theorem m_141 : (Cond.lays "NoonValley$Spreading" "NoonValley$Spreading" "must" "I") ∈ BW := bw (tb1 141 (by decide +kernel)) (by decide +kernel)
theorem m_143 : (Cond.laysFinal "NoonValley$Spreading" "NoonValley$Spreading" "callable" "[I") ∈ BW := bw (tb1 143 (by decide +kernel)) (by decide +kernel)
theorem m_145 : (Cond.laysFinal "NoonValley$Spreading" "NoonValley$Spreading" "powers" "[I") ∈ BW := bw (tb1 145 (by decide +kernel)) (by decide +kernel)
theorem m_147 : (Cond.laysFinal "NoonValley$Spreading" "NoonValley$Spreading" "stateAt" "[I") ∈ BW := bw (tb1 147 (by decide +kernel)) (by decide +kernel)
theorem m_149 : (Cond.laysFinal "NoonValley$Spreading" "NoonValley$Spreading" "comeTo" "[I") ∈ BW := bw (tb1 149 (by decide +kernel)) (by decide +kernel)
theorem m_151 : (Cond.laysFinal "NoonValley$Spreading" "NoonValley$Spreading" "good" "[I") ∈ BW := bw (tb1 151 (by decide +kernel)) (by decide +kernel)
theorem m_153 : (Cond.lays "NoonValley$Spreading" "NoonValley$Spreading" "now" "[I") ∈ BW := bw (tb1 153 (by decide +kernel)) (by decide +kernel)
theorem m_155 : (Cond.lays "NoonValley$Spreading" "NoonValley$Spreading" "next" "[I") ∈ BW := bw (tb1 155 (by decide +kernel)) (by decide +kernel)
theorem m_157 : (Cond.lays "NoonValley$Spreading" "NoonValley$Spreading" "nowCount" "I") ∈ BW := bw (tb1 157 (by decide +kernel)) (by decide +kernel)
theorem m_159 : (Cond.lays "NoonValley$Spreading" "NoonValley$Spreading" "nextCount" "I") ∈ BW := bw (tb1 159 (by decide +kernel)) (by decide +kernel)
theorem m_161 : (Cond.lays "NoonValley$Spreading" "NoonValley$Spreading" "addedA" "I") ∈ BW := bw (tb1 161 (by decide +kernel)) (by decide +kernel)
theorem m_163 : (Cond.lays "NoonValley$Spreading" "NoonValley$Spreading" "addedB" "I") ∈ BW := bw (tb1 163 (by decide +kernel)) (by decide +kernel)
theorem m_165 : (Cond.lays "NoonValley$Spreading" "NoonValley$Spreading" "spared" "I") ∈ BW := bw (tb1 165 (by decide +kernel)) (by decide +kernel)
theorem ciX7 : CI 7 RX7 TX7 17 tyX7 := ⟨rfl, fun w hw => by
  obtain ⟨k, hk, rfl⟩ := List.mem_map.mp hw
  have hk := List.mem_range.mp hk
  match k, hk with
  | 0, _ => exact m_133
  | 1, _ => exact m_135
  | 2, _ => exact m_137
  | 3, _ => exact m_139
  | 4, _ => exact m_141
  | 5, _ => exact m_143
  | 6, _ => exact m_145
  | 7, _ => exact m_147
  | 8, _ => exact m_149
  | 9, _ => exact m_151
  | 10, _ => exact m_153
  | 11, _ => exact m_155
  | 12, _ => exact m_157
  | 13, _ => exact m_159
  | 14, _ => exact m_161
  | 15, _ => exact m_163
  | 16, _ => exact m_165
  | k + 17, h => exact absurd h (by omega), tyX7_ok, nmX7⟩
theorem m_113 : (Cond.fieldLink "NoonValley$Spreading" 12 "NoonValley$Spreading" "rows" "LNoonValley$Rows;") ∈ BW := bw (tb1 113 (by decide +kernel)) (by decide +kernel)
theorem dX7_init_12 : decode cX7_init 12 = .ok (.putfield 12, 3) := DX7_init _ _ _ rfl
theorem dX7_init_15 : decode cX7_init 15 = .ok (.aload_n 0, 1) := DX7_init _ _ _ rfl
theorem dX7_init_16 : decode cX7_init 16 = .ok (.sipush 175, 3) := DX7_init _ _ _ rfl
theorem dX7_init_19 : decode cX7_init 19 = .ok (.newarray .int, 2) := DX7_init _ _ _ rfl
theorem m_118 : (Cond.fieldLink "NoonValley$Spreading" 18 "NoonValley$Spreading" "callable" "[I") ∈ BW := bw (tb1 118 (by decide +kernel)) (by decide +kernel)
theorem dX7_init_21 : decode cX7_init 21 = .ok (.putfield 18, 3) := DX7_init _ _ _ rfl
theorem dX7_init_24 : decode cX7_init 24 = .ok (.aload_n 0, 1) := DX7_init _ _ _ rfl
theorem dX7_init_25 : decode cX7_init 25 = .ok (.sipush 128, 3) := DX7_init _ _ _ rfl
theorem dX7_init_28 : decode cX7_init 28 = .ok (.newarray .int, 2) := DX7_init _ _ _ rfl
theorem m_119 : (Cond.fieldLink "NoonValley$Spreading" 22 "NoonValley$Spreading" "powers" "[I") ∈ BW := bw (tb1 119 (by decide +kernel)) (by decide +kernel)
theorem dX7_init_30 : decode cX7_init 30 = .ok (.putfield 22, 3) := DX7_init _ _ _ rfl
theorem dX7_init_33 : decode cX7_init 33 = .ok (.aload_n 0, 1) := DX7_init _ _ _ rfl
theorem dX7_init_34 : decode cX7_init 34 = .ok (.sipush 2187, 3) := DX7_init _ _ _ rfl
theorem dX7_init_37 : decode cX7_init 37 = .ok (.newarray .int, 2) := DX7_init _ _ _ rfl
theorem m_120 : (Cond.fieldLink "NoonValley$Spreading" 25 "NoonValley$Spreading" "stateAt" "[I") ∈ BW := bw (tb1 120 (by decide +kernel)) (by decide +kernel)
theorem dX7_init_39 : decode cX7_init 39 = .ok (.putfield 25, 3) := DX7_init _ _ _ rfl
theorem dX7_init_42 : decode cX7_init 42 = .ok (.aload_n 0, 1) := DX7_init _ _ _ rfl
theorem dX7_init_43 : decode cX7_init 43 = .ok (.sipush 2187, 3) := DX7_init _ _ _ rfl
theorem dX7_init_46 : decode cX7_init 46 = .ok (.newarray .int, 2) := DX7_init _ _ _ rfl
theorem m_121 : (Cond.fieldLink "NoonValley$Spreading" 28 "NoonValley$Spreading" "comeTo" "[I") ∈ BW := bw (tb1 121 (by decide +kernel)) (by decide +kernel)
theorem dX7_init_48 : decode cX7_init 48 = .ok (.putfield 28, 3) := DX7_init _ _ _ rfl
theorem dX7_init_51 : decode cX7_init 51 = .ok (.aload_n 0, 1) := DX7_init _ _ _ rfl
theorem dX7_init_52 : decode cX7_init 52 = .ok (.sipush 2187, 3) := DX7_init _ _ _ rfl
theorem dX7_init_55 : decode cX7_init 55 = .ok (.newarray .int, 2) := DX7_init _ _ _ rfl
theorem m_122 : (Cond.fieldLink "NoonValley$Spreading" 31 "NoonValley$Spreading" "good" "[I") ∈ BW := bw (tb1 122 (by decide +kernel)) (by decide +kernel)
theorem dX7_init_57 : decode cX7_init 57 = .ok (.putfield 31, 3) := DX7_init _ _ _ rfl
theorem dX7_init_60 : decode cX7_init 60 = .ok (.aload_n 0, 1) := DX7_init _ _ _ rfl
theorem dX7_init_61 : decode cX7_init 61 = .ok (.sipush 2187, 3) := DX7_init _ _ _ rfl
theorem dX7_init_64 : decode cX7_init 64 = .ok (.newarray .int, 2) := DX7_init _ _ _ rfl
theorem m_123 : (Cond.fieldLink "NoonValley$Spreading" 34 "NoonValley$Spreading" "now" "[I") ∈ BW := bw (tb1 123 (by decide +kernel)) (by decide +kernel)
theorem dX7_init_66 : decode cX7_init 66 = .ok (.putfield 34, 3) := DX7_init _ _ _ rfl
theorem dX7_init_69 : decode cX7_init 69 = .ok (.aload_n 0, 1) := DX7_init _ _ _ rfl
theorem dX7_init_70 : decode cX7_init 70 = .ok (.sipush 2187, 3) := DX7_init _ _ _ rfl
theorem dX7_init_73 : decode cX7_init 73 = .ok (.newarray .int, 2) := DX7_init _ _ _ rfl
theorem m_124 : (Cond.fieldLink "NoonValley$Spreading" 37 "NoonValley$Spreading" "next" "[I") ∈ BW := bw (tb1 124 (by decide +kernel)) (by decide +kernel)
theorem dX7_init_75 : decode cX7_init 75 = .ok (.putfield 37, 3) := DX7_init _ _ _ rfl
theorem dX7_init_78 : decode cX7_init 78 = .ok (.iconst 1, 1) := DX7_init _ _ _ rfl
theorem dX7_init_79 : decode cX7_init 79 = .ok (.istore_n 1, 1) := DX7_init _ _ _ rfl
theorem dX7_init_80 : decode cX7_init 80 = .ok (.iload_n 1, 1) := DX7_init _ _ _ rfl
theorem dX7_init_81 : decode cX7_init 81 = .ok (.sipush 128, 3) := DX7_init _ _ _ rfl
theorem dX7_init_84 : decode cX7_init 84 = .ok (.if_icmp .ge 29, 3) := DX7_init _ _ _ rfl
theorem dX7_init_113 : decode cX7_init 113 = .ok (.iconst 0, 1) := DX7_init _ _ _ rfl
theorem dX7_init_114 : decode cX7_init 114 = .ok (.istore_n 1, 1) := DX7_init _ _ _ rfl
theorem dX7_init_115 : decode cX7_init 115 = .ok (.iload_n 1, 1) := DX7_init _ _ _ rfl
theorem dX7_init_116 : decode cX7_init 116 = .ok (.sipush 128, 3) := DX7_init _ _ _ rfl
theorem dX7_init_119 : decode cX7_init 119 = .ok (.if_icmp .ge 55, 3) := DX7_init _ _ _ rfl
theorem dX7_init_174 : decode cX7_init 174 = .ok (.return_, 1) := DX7_init _ _ _ rfl
theorem dX7_init_122 : decode cX7_init 122 = .ok (.iconst 0, 1) := DX7_init _ _ _ rfl
theorem dX7_init_123 : decode cX7_init 123 = .ok (.istore_n 2, 1) := DX7_init _ _ _ rfl
theorem dX7_init_124 : decode cX7_init 124 = .ok (.iload_n 2, 1) := DX7_init _ _ _ rfl
theorem dX7_init_125 : decode cX7_init 125 = .ok (.sipush 128, 3) := DX7_init _ _ _ rfl
theorem dX7_init_128 : decode cX7_init 128 = .ok (.if_icmp .ge 40, 3) := DX7_init _ _ _ rfl
theorem dX7_init_168 : decode cX7_init 168 = .ok (.iinc 1 1, 3) := DX7_init _ _ _ rfl
theorem dX7_init_171 : decode cX7_init 171 = .ok (.goto (-56), 3) := DX7_init _ _ _ rfl
theorem dX7_init_131 : decode cX7_init 131 = .ok (.iload_n 1, 1) := DX7_init _ _ _ rfl
theorem dX7_init_132 : decode cX7_init 132 = .ok (.iload_n 2, 1) := DX7_init _ _ _ rfl
theorem dX7_init_133 : decode cX7_init 133 = .ok (.iand, 1) := DX7_init _ _ _ rfl
theorem dX7_init_134 : decode cX7_init 134 = .ok (.ifCond .ne 28, 3) := DX7_init _ _ _ rfl
theorem dX7_init_162 : decode cX7_init 162 = .ok (.iinc 2 1, 3) := DX7_init _ _ _ rfl
theorem dX7_init_165 : decode cX7_init 165 = .ok (.goto (-41), 3) := DX7_init _ _ _ rfl
theorem dX7_init_137 : decode cX7_init 137 = .ok (.aload_n 0, 1) := DX7_init _ _ _ rfl
theorem dX7_init_138 : decode cX7_init 138 = .ok (.getfield 25, 3) := DX7_init _ _ _ rfl
theorem dX7_init_141 : decode cX7_init 141 = .ok (.iconst 2, 1) := DX7_init _ _ _ rfl
theorem dX7_init_142 : decode cX7_init 142 = .ok (.aload_n 0, 1) := DX7_init _ _ _ rfl
theorem dX7_init_143 : decode cX7_init 143 = .ok (.getfield 22, 3) := DX7_init _ _ _ rfl
theorem dX7_init_146 : decode cX7_init 146 = .ok (.iload_n 1, 1) := DX7_init _ _ _ rfl
theorem dX7_init_147 : decode cX7_init 147 = .ok (.iaload, 1) := DX7_init _ _ _ rfl
theorem dX7_init_148 : decode cX7_init 148 = .ok (.imul, 1) := DX7_init _ _ _ rfl
theorem dX7_init_149 : decode cX7_init 149 = .ok (.aload_n 0, 1) := DX7_init _ _ _ rfl
theorem dX7_init_150 : decode cX7_init 150 = .ok (.getfield 22, 3) := DX7_init _ _ _ rfl
theorem dX7_init_153 : decode cX7_init 153 = .ok (.iload_n 2, 1) := DX7_init _ _ _ rfl
theorem dX7_init_154 : decode cX7_init 154 = .ok (.iaload, 1) := DX7_init _ _ _ rfl
theorem dX7_init_155 : decode cX7_init 155 = .ok (.iadd, 1) := DX7_init _ _ _ rfl
theorem dX7_init_156 : decode cX7_init 156 = .ok (.iload_n 1, 1) := DX7_init _ _ _ rfl
theorem dX7_init_157 : decode cX7_init 157 = .ok (.iload_n 2, 1) := DX7_init _ _ _ rfl
theorem m_110 : (Cond.methodLink "NoonValley$Spreading" 40 yX7_state) ∈ BW := bw (tb1 110 (by decide +kernel)) (by decide +kernel)
theorem m_4 : (Cond.initialized "NoonValley$Spreading") ∈ BW := bw (tb1 4 (by decide +kernel)) (by decide +kernel)
theorem m_111 : (Cond.static yX7_state) ∈ BW := bw (tb1 111 (by decide +kernel)) (by decide +kernel)
theorem vX7_40 : LST RX7 40 yX7_state cX7_state 2 (some .int) 2 := ⟨m_110, m_111, m_4, m_112, by decide, by decide, by decide +kernel⟩
theorem dX7_init_158 : decode cX7_init 158 = .ok (.invokestatic 40, 3) := DX7_init _ _ _ rfl
theorem dX7_init_161 : decode cX7_init 161 = .ok (.iastore, 1) := DX7_init _ _ _ rfl
theorem dX7_init_87 : decode cX7_init 87 = .ok (.aload_n 0, 1) := DX7_init _ _ _ rfl
theorem dX7_init_88 : decode cX7_init 88 = .ok (.getfield 22, 3) := DX7_init _ _ _ rfl
theorem dX7_init_91 : decode cX7_init 91 = .ok (.iload_n 1, 1) := DX7_init _ _ _ rfl
theorem dX7_init_92 : decode cX7_init 92 = .ok (.iload_n 1, 1) := DX7_init _ _ _ rfl
theorem dX7_init_93 : decode cX7_init 93 = .ok (.iconst 2, 1) := DX7_init _ _ _ rfl
theorem dX7_init_94 : decode cX7_init 94 = .ok (.irem, 1) := DX7_init _ _ _ rfl
theorem dX7_init_95 : decode cX7_init 95 = .ok (.iconst 3, 1) := DX7_init _ _ _ rfl
theorem dX7_init_96 : decode cX7_init 96 = .ok (.aload_n 0, 1) := DX7_init _ _ _ rfl
theorem dX7_init_97 : decode cX7_init 97 = .ok (.getfield 22, 3) := DX7_init _ _ _ rfl
theorem dX7_init_100 : decode cX7_init 100 = .ok (.iload_n 1, 1) := DX7_init _ _ _ rfl
theorem dX7_init_101 : decode cX7_init 101 = .ok (.iconst 2, 1) := DX7_init _ _ _ rfl
theorem dX7_init_102 : decode cX7_init 102 = .ok (.idiv, 1) := DX7_init _ _ _ rfl
theorem dX7_init_103 : decode cX7_init 103 = .ok (.iaload, 1) := DX7_init _ _ _ rfl
theorem dX7_init_104 : decode cX7_init 104 = .ok (.imul, 1) := DX7_init _ _ _ rfl
theorem dX7_init_105 : decode cX7_init 105 = .ok (.iadd, 1) := DX7_init _ _ _ rfl
theorem dX7_init_106 : decode cX7_init 106 = .ok (.iastore, 1) := DX7_init _ _ _ rfl
theorem dX7_init_107 : decode cX7_init 107 = .ok (.iinc 1 1, 3) := DX7_init _ _ _ rfl
theorem dX7_init_110 : decode cX7_init 110 = .ok (.goto (-30), 3) := DX7_init _ _ _ rfl
theorem m_26 : (Cond.code yX11_init prog_1_method_1_code 1 (Option.none : Option Jvm.ClassFile.FieldType)) ∈ BW := bw (tb1 26 rfl) (by decide +kernel)
theorem dX11_init_0 : decode cX11_init 0 = .ok (.aload_n 0, 1) := DX11_init _ _ _ rfl
theorem m_27 : (Cond.methodLink "NoonValley" 1 objectInit) ∈ BW := bw (tb1 27 (by decide +kernel)) (by decide +kernel)
theorem dX11_init_1 : decode cX11_init 1 = .ok (.invokespecial 1, 3) := DX11_init _ _ _ rfl
theorem dX11_init_4 : decode cX11_init 4 = .ok (.aload_n 0, 1) := DX11_init _ _ _ rfl
theorem m_30 : (Cond.classLink "NoonValley" 7 "NoonValley$Tape") ∈ BW := bw (tb1 30 (by decide +kernel)) (by decide +kernel)
theorem m_31 : (Cond.instantiable "NoonValley$Tape" 3) ∈ BW := bw (tb1 31 (by decide +kernel)) (by decide +kernel)
theorem m_2 : (Cond.initialized "NoonValley$Tape") ∈ BW := bw (tb1 2 (by decide +kernel)) (by decide +kernel)
theorem dX11_init_5 : decode cX11_init 5 = .ok (.new 7, 3) := DX11_init _ _ _ rfl
theorem dX11_init_8 : decode cX11_init 8 = .ok (.dup, 1) := DX11_init _ _ _ rfl
theorem m_32 : (Cond.methodLinkNest "NoonValley" 9 yX8_init "NoonValley") ∈ NWS := nw (tb1 32 (by decide +kernel)) (by decide +kernel)
theorem m_33 : (Cond.instanceMethod yX8_init) ∈ BW := bw (tb1 33 (by decide +kernel)) (by decide +kernel)
theorem vX11_9 : LIN RX11 9 "NoonValley" yX8_init cX8_init 1 0 := ⟨m_32, m_33, m_2, m_34, rfl, by decide, by decide, by decide +kernel⟩
theorem dX11_init_9 : decode cX11_init 9 = .ok (.invokespecial 9, 3) := DX11_init _ _ _ rfl
theorem m_367 : (Cond.laysFinal "NoonValley" "NoonValley" "tape" "LNoonValley$Tape;") ∈ BW := bw (tb2 127 (by decide +kernel)) (by decide +kernel)
theorem m_369 : (Cond.laysFinal "NoonValley" "NoonValley" "valleys" "[LNoonValley$Valley;") ∈ BW := bw (tb2 129 (by decide +kernel)) (by decide +kernel)
theorem m_371 : (Cond.laysFinal "NoonValley" "NoonValley" "plans" "[LNoonValley$Plan;") ∈ BW := bw (tb2 131 (by decide +kernel)) (by decide +kernel)
theorem m_373 : (Cond.laysFinal "NoonValley" "NoonValley" "carrying" "LNoonValley$Carrying;") ∈ BW := bw (tb2 133 (by decide +kernel)) (by decide +kernel)
theorem m_375 : (Cond.laysFinal "NoonValley" "NoonValley" "spreading" "LNoonValley$Spreading;") ∈ BW := bw (tb2 135 (by decide +kernel)) (by decide +kernel)
theorem m_377 : (Cond.laysFinal "NoonValley" "NoonValley" "shutting" "LNoonValley$Shutting;") ∈ BW := bw (tb2 137 (by decide +kernel)) (by decide +kernel)
theorem m_379 : (Cond.laysFinal "NoonValley" "NoonValley" "gossip" "LNoonValley$Gossip;") ∈ BW := bw (tb2 139 (by decide +kernel)) (by decide +kernel)
theorem m_381 : (Cond.laysFinal "NoonValley" "NoonValley" "trade" "LNoonValley$Trade;") ∈ BW := bw (tb2 141 (by decide +kernel)) (by decide +kernel)
theorem m_383 : (Cond.laysFinal "NoonValley" "NoonValley" "cards" "LNoonValley$Cards;") ∈ BW := bw (tb2 143 (by decide +kernel)) (by decide +kernel)
theorem m_385 : (Cond.laysFinal "NoonValley" "NoonValley" "chance" "LNoonValley$Chance;") ∈ BW := bw (tb2 145 (by decide +kernel)) (by decide +kernel)
theorem m_387 : (Cond.lays "NoonValley" "NoonValley" "spare" "LNoonValley$Valley;") ∈ BW := bw (tb2 147 (by decide +kernel)) (by decide +kernel)
theorem m_389 : (Cond.lays "NoonValley" "NoonValley" "valleyCount" "I") ∈ BW := bw (tb2 149 (by decide +kernel)) (by decide +kernel)
theorem m_391 : (Cond.lays "NoonValley" "NoonValley" "planCount" "I") ∈ BW := bw (tb2 151 (by decide +kernel)) (by decide +kernel)
theorem m_393 : (Cond.lays "NoonValley" "NoonValley" "callCount" "I") ∈ BW := bw (tb2 153 (by decide +kernel)) (by decide +kernel)
theorem ciX11 : CI 11 RX11 TX11 14 tyX11 := ⟨rfl, fun w hw => by
  obtain ⟨k, hk, rfl⟩ := List.mem_map.mp hw
  have hk := List.mem_range.mp hk
  match k, hk with
  | 0, _ => exact m_367
  | 1, _ => exact m_369
  | 2, _ => exact m_371
  | 3, _ => exact m_373
  | 4, _ => exact m_375
  | 5, _ => exact m_377
  | 6, _ => exact m_379
  | 7, _ => exact m_381
  | 8, _ => exact m_383
  | 9, _ => exact m_385
  | 10, _ => exact m_387
  | 11, _ => exact m_389
  | 12, _ => exact m_391
  | 13, _ => exact m_393
  | k + 14, h => exact absurd h (by omega), tyX11_ok, nmX11⟩
theorem m_353 : (Cond.fieldLink "NoonValley" 10 "NoonValley" "tape" "LNoonValley$Tape;") ∈ BW := bw (tb2 113 (by decide +kernel)) (by decide +kernel)
theorem dX11_init_12 : decode cX11_init 12 = .ok (.putfield 10, 3) := DX11_init _ _ _ rfl
theorem dX11_init_15 : decode cX11_init 15 = .ok (.aload_n 0, 1) := DX11_init _ _ _ rfl
theorem dX11_init_16 : decode cX11_init 16 = .ok (.bipush 10, 2) := DX11_init _ _ _ rfl
theorem m_48 : (Cond.classLink "NoonValley" 16 "NoonValley$Valley") ∈ BW := bw (tb1 48 (by decide +kernel)) (by decide +kernel)
theorem dX11_init_18 : decode cX11_init 18 = .ok (.anewarray 16, 3) := DX11_init _ _ _ rfl
theorem m_354 : (Cond.fieldLink "NoonValley" 18 "NoonValley" "valleys" "[LNoonValley$Valley;") ∈ BW := bw (tb2 114 (by decide +kernel)) (by decide +kernel)
theorem dX11_init_21 : decode cX11_init 21 = .ok (.putfield 18, 3) := DX11_init _ _ _ rfl
theorem dX11_init_24 : decode cX11_init 24 = .ok (.aload_n 0, 1) := DX11_init _ _ _ rfl
theorem dX11_init_25 : decode cX11_init 25 = .ok (.bipush 12, 2) := DX11_init _ _ _ rfl
theorem m_50 : (Cond.classLink "NoonValley" 22 "NoonValley$Plan") ∈ BW := bw (tb1 50 (by decide +kernel)) (by decide +kernel)
theorem dX11_init_27 : decode cX11_init 27 = .ok (.anewarray 22, 3) := DX11_init _ _ _ rfl
theorem m_355 : (Cond.fieldLink "NoonValley" 24 "NoonValley" "plans" "[LNoonValley$Plan;") ∈ BW := bw (tb2 115 (by decide +kernel)) (by decide +kernel)
theorem dX11_init_30 : decode cX11_init 30 = .ok (.putfield 24, 3) := DX11_init _ _ _ rfl
theorem dX11_init_33 : decode cX11_init 33 = .ok (.aload_n 0, 1) := DX11_init _ _ _ rfl
theorem m_52 : (Cond.classLink "NoonValley" 28 "NoonValley$Carrying") ∈ BW := bw (tb1 52 (by decide +kernel)) (by decide +kernel)
theorem m_53 : (Cond.instantiable "NoonValley$Carrying" 5) ∈ BW := bw (tb1 53 (by decide +kernel)) (by decide +kernel)
theorem m_3 : (Cond.initialized "NoonValley$Carrying") ∈ BW := bw (tb1 3 (by decide +kernel)) (by decide +kernel)
theorem dX11_init_34 : decode cX11_init 34 = .ok (.new 28, 3) := DX11_init _ _ _ rfl
theorem dX11_init_37 : decode cX11_init 37 = .ok (.dup, 1) := DX11_init _ _ _ rfl
theorem m_54 : (Cond.methodLinkNest "NoonValley" 30 yX1_init "NoonValley") ∈ NWS := nw (tb1 54 (by decide +kernel)) (by decide +kernel)
theorem m_55 : (Cond.instanceMethod yX1_init) ∈ BW := bw (tb1 55 (by decide +kernel)) (by decide +kernel)
theorem vX11_30 : LIN RX11 30 "NoonValley" yX1_init cX1_init 1 0 := ⟨m_54, m_55, m_3, m_56, rfl, by decide, by decide, by decide +kernel⟩
theorem dX11_init_38 : decode cX11_init 38 = .ok (.invokespecial 30, 3) := DX11_init _ _ _ rfl
theorem m_356 : (Cond.fieldLink "NoonValley" 31 "NoonValley" "carrying" "LNoonValley$Carrying;") ∈ BW := bw (tb2 116 (by decide +kernel)) (by decide +kernel)
theorem dX11_init_41 : decode cX11_init 41 = .ok (.putfield 31, 3) := DX11_init _ _ _ rfl
theorem dX11_init_44 : decode cX11_init 44 = .ok (.aload_n 0, 1) := DX11_init _ _ _ rfl
theorem m_75 : (Cond.classLink "NoonValley" 35 "NoonValley$Spreading") ∈ BW := bw (tb1 75 (by decide +kernel)) (by decide +kernel)
theorem m_76 : (Cond.instantiable "NoonValley$Spreading" 17) ∈ BW := bw (tb1 76 (by decide +kernel)) (by decide +kernel)
theorem dX11_init_45 : decode cX11_init 45 = .ok (.new 35, 3) := DX11_init _ _ _ rfl
theorem dX11_init_48 : decode cX11_init 48 = .ok (.dup, 1) := DX11_init _ _ _ rfl
theorem m_77 : (Cond.methodLink "NoonValley" 37 yX7_init) ∈ BW := bw (tb1 77 (by decide +kernel)) (by decide +kernel)
theorem m_78 : (Cond.instanceMethod yX7_init) ∈ BW := bw (tb1 78 (by decide +kernel)) (by decide +kernel)
theorem vX11_37 : LI RX11 37 yX7_init cX7_init 3 0 := ⟨m_77, m_78, m_4, m_79, rfl, by decide, by decide, by decide +kernel⟩
theorem dX11_init_49 : decode cX11_init 49 = .ok (.invokespecial 37, 3) := DX11_init _ _ _ rfl
theorem m_357 : (Cond.fieldLink "NoonValley" 38 "NoonValley" "spreading" "LNoonValley$Spreading;") ∈ BW := bw (tb2 117 (by decide +kernel)) (by decide +kernel)
theorem dX11_init_52 : decode cX11_init 52 = .ok (.putfield 38, 3) := DX11_init _ _ _ rfl
theorem dX11_init_55 : decode cX11_init 55 = .ok (.aload_n 0, 1) := DX11_init _ _ _ rfl
theorem m_179 : (Cond.lays "NoonValley$Shutting" "NoonValley$Shutting" "valley" "LNoonValley$Valley;") ∈ BW := bw (tb1 179 (by decide +kernel)) (by decide +kernel)
theorem m_181 : (Cond.lays "NoonValley$Shutting" "NoonValley$Shutting" "goal" "I") ∈ BW := bw (tb1 181 (by decide +kernel)) (by decide +kernel)
theorem m_183 : (Cond.lays "NoonValley$Shutting" "NoonValley$Shutting" "hour" "I") ∈ BW := bw (tb1 183 (by decide +kernel)) (by decide +kernel)
theorem m_185 : (Cond.lays "NoonValley$Shutting" "NoonValley$Shutting" "before" "I") ∈ BW := bw (tb1 185 (by decide +kernel)) (by decide +kernel)
theorem m_187 : (Cond.lays "NoonValley$Shutting" "NoonValley$Shutting" "used" "I") ∈ BW := bw (tb1 187 (by decide +kernel)) (by decide +kernel)
theorem ciX6 : CI 6 RX6 TX6 5 tyX6 := ⟨rfl, fun w hw => by
  obtain ⟨k, hk, rfl⟩ := List.mem_map.mp hw
  have hk := List.mem_range.mp hk
  match k, hk with
  | 0, _ => exact m_179
  | 1, _ => exact m_181
  | 2, _ => exact m_183
  | 3, _ => exact m_185
  | 4, _ => exact m_187
  | k + 5, h => exact absurd h (by omega), tyX6_ok, nmX6⟩
theorem m_168 : (Cond.classLink "NoonValley" 42 "NoonValley$Shutting") ∈ BW := bw (tb1 168 (by decide +kernel)) (by decide +kernel)
theorem m_169 : (Cond.instantiable "NoonValley$Shutting" 5) ∈ BW := bw (tb1 169 (by decide +kernel)) (by decide +kernel)
theorem m_6 : (Cond.initialized "NoonValley$Shutting") ∈ BW := bw (tb1 6 (by decide +kernel)) (by decide +kernel)
theorem dX11_init_56 : decode cX11_init 56 = .ok (.new 42, 3) := DX11_init _ _ _ rfl
theorem dX11_init_59 : decode cX11_init 59 = .ok (.dup, 1) := DX11_init _ _ _ rfl
theorem m_170 : (Cond.methodLinkNest "NoonValley" 44 yX6_init "NoonValley") ∈ NWS := nw (tb1 170 (by decide +kernel)) (by decide +kernel)
theorem m_171 : (Cond.instanceMethod yX6_init) ∈ BW := bw (tb1 171 (by decide +kernel)) (by decide +kernel)
theorem vX11_44 : LIN RX11 44 "NoonValley" yX6_init cX6_init 1 0 := ⟨m_170, m_171, m_6, m_172, rfl, by decide, by decide, by decide +kernel⟩
theorem dX11_init_60 : decode cX11_init 60 = .ok (.invokespecial 44, 3) := DX11_init _ _ _ rfl
theorem m_358 : (Cond.fieldLink "NoonValley" 45 "NoonValley" "shutting" "LNoonValley$Shutting;") ∈ BW := bw (tb2 118 (by decide +kernel)) (by decide +kernel)
theorem dX11_init_63 : decode cX11_init 63 = .ok (.putfield 45, 3) := DX11_init _ _ _ rfl
theorem dX11_init_66 : decode cX11_init 66 = .ok (.aload_n 0, 1) := DX11_init _ _ _ rfl
theorem m_190 : (Cond.classLink "NoonValley" 49 "NoonValley$Gossip") ∈ BW := bw (tb1 190 (by decide +kernel)) (by decide +kernel)
theorem m_191 : (Cond.instantiable "NoonValley$Gossip" 3) ∈ BW := bw (tb1 191 (by decide +kernel)) (by decide +kernel)
theorem m_7 : (Cond.initialized "NoonValley$Gossip") ∈ BW := bw (tb1 7 (by decide +kernel)) (by decide +kernel)
theorem dX11_init_67 : decode cX11_init 67 = .ok (.new 49, 3) := DX11_init _ _ _ rfl
theorem dX11_init_70 : decode cX11_init 70 = .ok (.dup, 1) := DX11_init _ _ _ rfl
theorem m_192 : (Cond.methodLinkNest "NoonValley" 51 yX3_init "NoonValley") ∈ NWS := nw (tb1 192 (by decide +kernel)) (by decide +kernel)
theorem m_193 : (Cond.instanceMethod yX3_init) ∈ BW := bw (tb1 193 (by decide +kernel)) (by decide +kernel)
theorem vX11_51 : LIN RX11 51 "NoonValley" yX3_init cX3_init 1 0 := ⟨m_192, m_193, m_7, m_194, rfl, by decide, by decide, by decide +kernel⟩
theorem dX11_init_71 : decode cX11_init 71 = .ok (.invokespecial 51, 3) := DX11_init _ _ _ rfl
theorem m_359 : (Cond.fieldLink "NoonValley" 52 "NoonValley" "gossip" "LNoonValley$Gossip;") ∈ BW := bw (tb2 119 (by decide +kernel)) (by decide +kernel)
theorem dX11_init_74 : decode cX11_init 74 = .ok (.putfield 52, 3) := DX11_init _ _ _ rfl
theorem dX11_init_77 : decode cX11_init 77 = .ok (.aload_n 0, 1) := DX11_init _ _ _ rfl
theorem m_206 : (Cond.classLink "NoonValley" 56 "NoonValley$Trade") ∈ BW := bw (tb1 206 (by decide +kernel)) (by decide +kernel)
theorem m_207 : (Cond.instantiable "NoonValley$Trade" 3) ∈ BW := bw (tb1 207 (by decide +kernel)) (by decide +kernel)
theorem m_8 : (Cond.initialized "NoonValley$Trade") ∈ BW := bw (tb1 8 (by decide +kernel)) (by decide +kernel)
theorem dX11_init_78 : decode cX11_init 78 = .ok (.new 56, 3) := DX11_init _ _ _ rfl
theorem dX11_init_81 : decode cX11_init 81 = .ok (.dup, 1) := DX11_init _ _ _ rfl
theorem m_208 : (Cond.methodLinkNest "NoonValley" 58 yX9_init "NoonValley") ∈ NWS := nw (tb1 208 (by decide +kernel)) (by decide +kernel)
theorem m_209 : (Cond.instanceMethod yX9_init) ∈ BW := bw (tb1 209 (by decide +kernel)) (by decide +kernel)
theorem vX11_58 : LIN RX11 58 "NoonValley" yX9_init cX9_init 1 0 := ⟨m_208, m_209, m_8, m_210, rfl, by decide, by decide, by decide +kernel⟩
theorem dX11_init_82 : decode cX11_init 82 = .ok (.invokespecial 58, 3) := DX11_init _ _ _ rfl
theorem m_360 : (Cond.fieldLink "NoonValley" 59 "NoonValley" "trade" "LNoonValley$Trade;") ∈ BW := bw (tb2 120 (by decide +kernel)) (by decide +kernel)
theorem dX11_init_85 : decode cX11_init 85 = .ok (.putfield 59, 3) := DX11_init _ _ _ rfl
theorem dX11_init_88 : decode cX11_init 88 = .ok (.aload_n 0, 1) := DX11_init _ _ _ rfl
theorem m_224 : (Cond.classLink "NoonValley" 63 "NoonValley$Cards") ∈ BW := bw (tb1 224 (by decide +kernel)) (by decide +kernel)
theorem m_225 : (Cond.instantiable "NoonValley$Cards" 7) ∈ BW := bw (tb1 225 (by decide +kernel)) (by decide +kernel)
theorem m_9 : (Cond.initialized "NoonValley$Cards") ∈ BW := bw (tb1 9 (by decide +kernel)) (by decide +kernel)
theorem dX11_init_89 : decode cX11_init 89 = .ok (.new 63, 3) := DX11_init _ _ _ rfl
theorem dX11_init_92 : decode cX11_init 92 = .ok (.dup, 1) := DX11_init _ _ _ rfl
theorem m_226 : (Cond.methodLinkNest "NoonValley" 65 yX0_init "NoonValley") ∈ NWS := nw (tb1 226 (by decide +kernel)) (by decide +kernel)
theorem m_227 : (Cond.instanceMethod yX0_init) ∈ BW := bw (tb1 227 (by decide +kernel)) (by decide +kernel)
theorem vX11_65 : LIN RX11 65 "NoonValley" yX0_init cX0_init 1 0 := ⟨m_226, m_227, m_9, m_228, rfl, by decide, by decide, by decide +kernel⟩
theorem dX11_init_93 : decode cX11_init 93 = .ok (.invokespecial 65, 3) := DX11_init _ _ _ rfl
theorem m_361 : (Cond.fieldLink "NoonValley" 66 "NoonValley" "cards" "LNoonValley$Cards;") ∈ BW := bw (tb2 121 (by decide +kernel)) (by decide +kernel)
theorem dX11_init_96 : decode cX11_init 96 = .ok (.putfield 66, 3) := DX11_init _ _ _ rfl
theorem dX11_init_99 : decode cX11_init 99 = .ok (.aload_n 0, 1) := DX11_init _ _ _ rfl
theorem m_253 : (Cond.classLink "NoonValley" 70 "NoonValley$Chance") ∈ BW := bw (tb2 13 (by decide +kernel)) (by decide +kernel)
theorem m_254 : (Cond.instantiable "NoonValley$Chance" 2) ∈ BW := bw (tb2 14 (by decide +kernel)) (by decide +kernel)
theorem m_10 : (Cond.initialized "NoonValley$Chance") ∈ BW := bw (tb1 10 (by decide +kernel)) (by decide +kernel)
theorem dX11_init_100 : decode cX11_init 100 = .ok (.new 70, 3) := DX11_init _ _ _ rfl
theorem dX11_init_103 : decode cX11_init 103 = .ok (.dup, 1) := DX11_init _ _ _ rfl
theorem m_255 : (Cond.methodLinkNest "NoonValley" 72 yX2_init "NoonValley") ∈ NWS := nw (tb2 15 (by decide +kernel)) (by decide +kernel)
theorem m_256 : (Cond.instanceMethod yX2_init) ∈ BW := bw (tb2 16 (by decide +kernel)) (by decide +kernel)
theorem vX11_72 : LIN RX11 72 "NoonValley" yX2_init cX2_init 1 0 := ⟨m_255, m_256, m_10, m_257, rfl, by decide, by decide, by decide +kernel⟩
theorem dX11_init_104 : decode cX11_init 104 = .ok (.invokespecial 72, 3) := DX11_init _ _ _ rfl
theorem m_362 : (Cond.fieldLink "NoonValley" 73 "NoonValley" "chance" "LNoonValley$Chance;") ∈ BW := bw (tb2 122 (by decide +kernel)) (by decide +kernel)
theorem dX11_init_107 : decode cX11_init 107 = .ok (.putfield 73, 3) := DX11_init _ _ _ rfl
theorem dX11_init_110 : decode cX11_init 110 = .ok (.aload_n 0, 1) := DX11_init _ _ _ rfl
theorem m_267 : (Cond.instantiable "NoonValley$Valley" 16) ∈ BW := bw (tb2 27 (by decide +kernel)) (by decide +kernel)
theorem m_11 : (Cond.initialized "NoonValley$Valley") ∈ BW := bw (tb1 11 (by decide +kernel)) (by decide +kernel)
theorem dX11_init_111 : decode cX11_init 111 = .ok (.new 16, 3) := DX11_init _ _ _ rfl
theorem dX11_init_114 : decode cX11_init 114 = .ok (.dup, 1) := DX11_init _ _ _ rfl
theorem m_268 : (Cond.methodLinkNest "NoonValley" 77 yX10_init "NoonValley") ∈ NWS := nw (tb2 28 (by decide +kernel)) (by decide +kernel)
theorem m_269 : (Cond.instanceMethod yX10_init) ∈ BW := bw (tb2 29 (by decide +kernel)) (by decide +kernel)
theorem vX11_77 : LIN RX11 77 "NoonValley" yX10_init cX10_init 1 0 := ⟨m_268, m_269, m_11, m_270, rfl, by decide, by decide, by decide +kernel⟩
theorem dX11_init_115 : decode cX11_init 115 = .ok (.invokespecial 77, 3) := DX11_init _ _ _ rfl
theorem m_363 : (Cond.fieldLink "NoonValley" 78 "NoonValley" "spare" "LNoonValley$Valley;") ∈ BW := bw (tb2 123 (by decide +kernel)) (by decide +kernel)
theorem dX11_init_118 : decode cX11_init 118 = .ok (.putfield 78, 3) := DX11_init _ _ _ rfl
theorem dX11_init_121 : decode cX11_init 121 = .ok (.return_, 1) := DX11_init _ _ _ rfl
theorem m_1227 : (Cond.code yX12_init prog_14_method_1_code 1 (Option.none : Option Jvm.ClassFile.FieldType)) ∈ BW := bw (tb6 27 rfl) (by decide +kernel)
theorem dX12_init_0 : decode cX12_init 0 = .ok (.aload_n 0, 1) := DX12_init _ _ _ rfl
theorem m_1228 : (Cond.methodLink "NoonValleyModel" 3 objectInit) ∈ BW := bw (tb6 28 (by decide +kernel)) (by decide +kernel)
theorem dX12_init_1 : decode cX12_init 1 = .ok (.invokespecial 3, 3) := DX12_init _ _ _ rfl
theorem dX12_init_4 : decode cX12_init 4 = .ok (.aload_n 0, 1) := DX12_init _ _ _ rfl
theorem dX12_init_5 : decode cX12_init 5 = .ok (.sipush 400, 3) := DX12_init _ _ _ rfl
theorem m_1420 : (Cond.arrayClass FieldType.byte) ∈ BW := bw (tb6 220 (by decide +kernel)) (by decide +kernel)
theorem dX12_init_8 : decode cX12_init 8 = .ok (.newarray .byte, 2) := DX12_init _ _ _ rfl
theorem m_1291 : (Cond.lays "NoonValleyModel" "NoonValleyModel" "thrown" "I") ∈ BW := bw (tb6 91 (by decide +kernel)) (by decide +kernel)
theorem m_1293 : (Cond.laysFinal "NoonValleyModel" "NoonValleyModel" "tape" "[B") ∈ BW := bw (tb6 93 (by decide +kernel)) (by decide +kernel)
theorem m_1295 : (Cond.lays "NoonValleyModel" "NoonValleyModel" "length" "I") ∈ BW := bw (tb6 95 (by decide +kernel)) (by decide +kernel)
theorem m_1297 : (Cond.lays "NoonValleyModel" "NoonValleyModel" "at" "I") ∈ BW := bw (tb6 97 (by decide +kernel)) (by decide +kernel)
theorem m_1299 : (Cond.lays "NoonValleyModel" "NoonValleyModel" "fault" "I") ∈ BW := bw (tb6 99 (by decide +kernel)) (by decide +kernel)
theorem m_1301 : (Cond.lays "NoonValleyModel" "NoonValleyModel" "number" "I") ∈ BW := bw (tb6 101 (by decide +kernel)) (by decide +kernel)
theorem m_1303 : (Cond.laysFinal "NoonValleyModel" "NoonValleyModel" "people" "[I") ∈ BW := bw (tb6 103 (by decide +kernel)) (by decide +kernel)
theorem m_1305 : (Cond.laysFinal "NoonValleyModel" "NoonValleyModel" "lines" "[I") ∈ BW := bw (tb6 105 (by decide +kernel)) (by decide +kernel)
theorem m_1307 : (Cond.laysFinal "NoonValleyModel" "NoonValleyModel" "deaf" "[I") ∈ BW := bw (tb6 107 (by decide +kernel)) (by decide +kernel)
theorem m_1309 : (Cond.laysFinal "NoonValleyModel" "NoonValleyModel" "knows" "[I") ∈ BW := bw (tb6 109 (by decide +kernel)) (by decide +kernel)
theorem m_1311 : (Cond.laysFinal "NoonValleyModel" "NoonValleyModel" "musts" "[I") ∈ BW := bw (tb6 111 (by decide +kernel)) (by decide +kernel)
theorem m_1313 : (Cond.laysFinal "NoonValleyModel" "NoonValleyModel" "mustNots" "[I") ∈ BW := bw (tb6 113 (by decide +kernel)) (by decide +kernel)
theorem m_1315 : (Cond.laysFinal "NoonValleyModel" "NoonValleyModel" "lineA" "[I") ∈ BW := bw (tb6 115 (by decide +kernel)) (by decide +kernel)
theorem m_1317 : (Cond.laysFinal "NoonValleyModel" "NoonValleyModel" "lineB" "[I") ∈ BW := bw (tb6 117 (by decide +kernel)) (by decide +kernel)
theorem m_1319 : (Cond.laysFinal "NoonValleyModel" "NoonValleyModel" "lineF" "[I") ∈ BW := bw (tb6 119 (by decide +kernel)) (by decide +kernel)
theorem m_1321 : (Cond.laysFinal "NoonValleyModel" "NoonValleyModel" "lineT" "[I") ∈ BW := bw (tb6 121 (by decide +kernel)) (by decide +kernel)
theorem m_1323 : (Cond.laysFinal "NoonValleyModel" "NoonValleyModel" "lineDown" "[I") ∈ BW := bw (tb6 123 (by decide +kernel)) (by decide +kernel)
theorem m_1325 : (Cond.laysFinal "NoonValleyModel" "NoonValleyModel" "isOne" "[Z") ∈ BW := bw (tb6 125 (by decide +kernel)) (by decide +kernel)
theorem m_1327 : (Cond.lays "NoonValleyModel" "NoonValleyModel" "valleys" "I") ∈ BW := bw (tb6 127 (by decide +kernel)) (by decide +kernel)
theorem m_1329 : (Cond.lays "NoonValleyModel" "NoonValleyModel" "moreA" "I") ∈ BW := bw (tb6 129 (by decide +kernel)) (by decide +kernel)
theorem m_1331 : (Cond.lays "NoonValleyModel" "NoonValleyModel" "moreB" "I") ∈ BW := bw (tb6 131 (by decide +kernel)) (by decide +kernel)
theorem m_1333 : (Cond.laysFinal "NoonValleyModel" "NoonValleyModel" "planOf" "[I") ∈ BW := bw (tb6 133 (by decide +kernel)) (by decide +kernel)
theorem m_1335 : (Cond.laysFinal "NoonValleyModel" "NoonValleyModel" "calls" "[I") ∈ BW := bw (tb6 135 (by decide +kernel)) (by decide +kernel)
theorem m_1337 : (Cond.laysFinal "NoonValleyModel" "NoonValleyModel" "callHour" "[I") ∈ BW := bw (tb6 137 (by decide +kernel)) (by decide +kernel)
theorem m_1339 : (Cond.laysFinal "NoonValleyModel" "NoonValleyModel" "callKind" "[I") ∈ BW := bw (tb6 139 (by decide +kernel)) (by decide +kernel)
theorem m_1341 : (Cond.laysFinal "NoonValleyModel" "NoonValleyModel" "callOne" "[I") ∈ BW := bw (tb6 141 (by decide +kernel)) (by decide +kernel)
theorem m_1343 : (Cond.laysFinal "NoonValleyModel" "NoonValleyModel" "callOther" "[I") ∈ BW := bw (tb6 143 (by decide +kernel)) (by decide +kernel)
theorem m_1345 : (Cond.lays "NoonValleyModel" "NoonValleyModel" "plans" "I") ∈ BW := bw (tb6 145 (by decide +kernel)) (by decide +kernel)
theorem m_1347 : (Cond.laysFinal "NoonValleyModel" "NoonValleyModel" "law" "[I") ∈ BW := bw (tb6 147 (by decide +kernel)) (by decide +kernel)
theorem m_1349 : (Cond.laysFinal "NoonValleyModel" "NoonValleyModel" "reached" "[I") ∈ BW := bw (tb6 149 (by decide +kernel)) (by decide +kernel)
theorem m_1351 : (Cond.laysFinal "NoonValleyModel" "NoonValleyModel" "after" "[I") ∈ BW := bw (tb6 151 (by decide +kernel)) (by decide +kernel)
theorem m_1353 : (Cond.laysFinal "NoonValleyModel" "NoonValleyModel" "once" "[I") ∈ BW := bw (tb6 153 (by decide +kernel)) (by decide +kernel)
theorem m_1355 : (Cond.laysFinal "NoonValleyModel" "NoonValleyModel" "fresh" "[I") ∈ BW := bw (tb6 155 (by decide +kernel)) (by decide +kernel)
theorem m_1357 : (Cond.laysFinal "NoonValleyModel" "NoonValleyModel" "twice" "[I") ∈ BW := bw (tb6 157 (by decide +kernel)) (by decide +kernel)
theorem m_1359 : (Cond.laysFinal "NoonValleyModel" "NoonValleyModel" "need" "[B") ∈ BW := bw (tb6 159 (by decide +kernel)) (by decide +kernel)
theorem m_1361 : (Cond.laysFinal "NoonValleyModel" "NoonValleyModel" "row" "[I") ∈ BW := bw (tb6 161 (by decide +kernel)) (by decide +kernel)
theorem m_1363 : (Cond.laysFinal "NoonValleyModel" "NoonValleyModel" "lowRow" "[I") ∈ BW := bw (tb6 163 (by decide +kernel)) (by decide +kernel)
theorem m_1365 : (Cond.lays "NoonValleyModel" "NoonValleyModel" "askValley" "I") ∈ BW := bw (tb6 165 (by decide +kernel)) (by decide +kernel)
theorem m_1367 : (Cond.lays "NoonValleyModel" "NoonValleyModel" "askMust" "I") ∈ BW := bw (tb6 167 (by decide +kernel)) (by decide +kernel)
theorem m_1369 : (Cond.lays "NoonValleyModel" "NoonValleyModel" "askNot" "I") ∈ BW := bw (tb6 169 (by decide +kernel)) (by decide +kernel)
theorem m_1371 : (Cond.lays "NoonValleyModel" "NoonValleyModel" "bestNeed" "I") ∈ BW := bw (tb6 171 (by decide +kernel)) (by decide +kernel)
theorem m_1373 : (Cond.lays "NoonValleyModel" "NoonValleyModel" "askHour" "I") ∈ BW := bw (tb6 173 (by decide +kernel)) (by decide +kernel)
theorem m_1375 : (Cond.lays "NoonValleyModel" "NoonValleyModel" "askWanted" "I") ∈ BW := bw (tb6 175 (by decide +kernel)) (by decide +kernel)
theorem m_1377 : (Cond.lays "NoonValleyModel" "NoonValleyModel" "findsRow" "Z") ∈ BW := bw (tb6 177 (by decide +kernel)) (by decide +kernel)
theorem m_1379 : (Cond.lays "NoonValleyModel" "NoonValleyModel" "nextKnow" "I") ∈ BW := bw (tb6 179 (by decide +kernel)) (by decide +kernel)
theorem m_1381 : (Cond.lays "NoonValleyModel" "NoonValleyModel" "nextOnce" "I") ∈ BW := bw (tb6 181 (by decide +kernel)) (by decide +kernel)
theorem m_1383 : (Cond.laysFinal "NoonValleyModel" "NoonValleyModel" "things" "[I") ∈ BW := bw (tb6 183 (by decide +kernel)) (by decide +kernel)
theorem m_1385 : (Cond.laysFinal "NoonValleyModel" "NoonValleyModel" "gossipRow" "[I") ∈ BW := bw (tb6 185 (by decide +kernel)) (by decide +kernel)
theorem m_1387 : (Cond.laysFinal "NoonValleyModel" "NoonValleyModel" "isLower" "[Z") ∈ BW := bw (tb6 187 (by decide +kernel)) (by decide +kernel)
theorem m_1389 : (Cond.laysFinal "NoonValleyModel" "NoonValleyModel" "cost" "[I") ∈ BW := bw (tb6 189 (by decide +kernel)) (by decide +kernel)
theorem m_1391 : (Cond.laysFinal "NoonValleyModel" "NoonValleyModel" "costNext" "[I") ∈ BW := bw (tb6 191 (by decide +kernel)) (by decide +kernel)
theorem m_1393 : (Cond.laysFinal "NoonValleyModel" "NoonValleyModel" "tradeCosts" "[I") ∈ BW := bw (tb6 193 (by decide +kernel)) (by decide +kernel)
theorem m_1395 : (Cond.laysFinal "NoonValleyModel" "NoonValleyModel" "cards" "[I") ∈ BW := bw (tb6 195 (by decide +kernel)) (by decide +kernel)
theorem m_1397 : (Cond.laysFinal "NoonValleyModel" "NoonValleyModel" "cardLong" "[I") ∈ BW := bw (tb6 197 (by decide +kernel)) (by decide +kernel)
theorem m_1399 : (Cond.laysFinal "NoonValleyModel" "NoonValleyModel" "gone" "[I") ∈ BW := bw (tb6 199 (by decide +kernel)) (by decide +kernel)
theorem m_1401 : (Cond.laysFinal "NoonValleyModel" "NoonValleyModel" "below" "[I") ∈ BW := bw (tb6 201 (by decide +kernel)) (by decide +kernel)
theorem m_1403 : (Cond.laysFinal "NoonValleyModel" "NoonValleyModel" "belowMany" "[I") ∈ BW := bw (tb6 203 (by decide +kernel)) (by decide +kernel)
theorem m_1405 : (Cond.laysFinal "NoonValleyModel" "NoonValleyModel" "time" "[I") ∈ BW := bw (tb6 205 (by decide +kernel)) (by decide +kernel)
theorem m_1407 : (Cond.laysFinal "NoonValleyModel" "NoonValleyModel" "broken" "[I") ∈ BW := bw (tb6 207 (by decide +kernel)) (by decide +kernel)
theorem m_1409 : (Cond.laysFinal "NoonValleyModel" "NoonValleyModel" "ways" "[J") ∈ BW := bw (tb6 209 (by decide +kernel)) (by decide +kernel)
theorem m_1411 : (Cond.laysFinal "NoonValleyModel" "NoonValleyModel" "waysNext" "[J") ∈ BW := bw (tb6 211 (by decide +kernel)) (by decide +kernel)
theorem m_1413 : (Cond.laysFinal "NoonValleyModel" "NoonValleyModel" "tales" "[I") ∈ BW := bw (tb6 213 (by decide +kernel)) (by decide +kernel)
theorem m_1415 : (Cond.laysFinal "NoonValleyModel" "NoonValleyModel" "can" "[Z") ∈ BW := bw (tb6 215 (by decide +kernel)) (by decide +kernel)
theorem m_1417 : (Cond.laysFinal "NoonValleyModel" "NoonValleyModel" "canNext" "[Z") ∈ BW := bw (tb6 217 (by decide +kernel)) (by decide +kernel)
theorem ciX12 : CI 12 RX12 TX12 64 tyX12 := ⟨rfl, fun w hw => by
  obtain ⟨k, hk, rfl⟩ := List.mem_map.mp hw
  have hk := List.mem_range.mp hk
  match k, hk with
  | 0, _ => exact m_1291
  | 1, _ => exact m_1293
  | 2, _ => exact m_1295
  | 3, _ => exact m_1297
  | 4, _ => exact m_1299
  | 5, _ => exact m_1301
  | 6, _ => exact m_1303
  | 7, _ => exact m_1305
  | 8, _ => exact m_1307
  | 9, _ => exact m_1309
  | 10, _ => exact m_1311
  | 11, _ => exact m_1313
  | 12, _ => exact m_1315
  | 13, _ => exact m_1317
  | 14, _ => exact m_1319
  | 15, _ => exact m_1321
  | 16, _ => exact m_1323
  | 17, _ => exact m_1325
  | 18, _ => exact m_1327
  | 19, _ => exact m_1329
  | 20, _ => exact m_1331
  | 21, _ => exact m_1333
  | 22, _ => exact m_1335
  | 23, _ => exact m_1337
  | 24, _ => exact m_1339
  | 25, _ => exact m_1341
  | 26, _ => exact m_1343
  | 27, _ => exact m_1345
  | 28, _ => exact m_1347
  | 29, _ => exact m_1349
  | 30, _ => exact m_1351
  | 31, _ => exact m_1353
  | 32, _ => exact m_1355
  | 33, _ => exact m_1357
  | 34, _ => exact m_1359
  | 35, _ => exact m_1361
  | 36, _ => exact m_1363
  | 37, _ => exact m_1365
  | 38, _ => exact m_1367
  | 39, _ => exact m_1369
  | 40, _ => exact m_1371
  | 41, _ => exact m_1373
  | 42, _ => exact m_1375
  | 43, _ => exact m_1377
  | 44, _ => exact m_1379
  | 45, _ => exact m_1381
  | 46, _ => exact m_1383
  | 47, _ => exact m_1385
  | 48, _ => exact m_1387
  | 49, _ => exact m_1389
  | 50, _ => exact m_1391
  | 51, _ => exact m_1393
  | 52, _ => exact m_1395
  | 53, _ => exact m_1397
  | 54, _ => exact m_1399
  | 55, _ => exact m_1401
  | 56, _ => exact m_1403
  | 57, _ => exact m_1405
  | 58, _ => exact m_1407
  | 59, _ => exact m_1409
  | 60, _ => exact m_1411
  | 61, _ => exact m_1413
  | 62, _ => exact m_1415
  | 63, _ => exact m_1417
  | k + 64, h => exact absurd h (by omega), tyX12_ok, nmX12⟩
theorem m_1232 : (Cond.fieldLink "NoonValleyModel" 9 "NoonValleyModel" "tape" "[B") ∈ BW := bw (tb6 32 (by decide +kernel)) (by decide +kernel)
theorem dX12_init_10 : decode cX12_init 10 = .ok (.putfield 9, 3) := DX12_init _ _ _ rfl
theorem dX12_init_13 : decode cX12_init 13 = .ok (.aload_n 0, 1) := DX12_init _ _ _ rfl
theorem dX12_init_14 : decode cX12_init 14 = .ok (.bipush 11, 2) := DX12_init _ _ _ rfl
theorem dX12_init_16 : decode cX12_init 16 = .ok (.newarray .int, 2) := DX12_init _ _ _ rfl
theorem m_1237 : (Cond.fieldLink "NoonValleyModel" 13 "NoonValleyModel" "people" "[I") ∈ BW := bw (tb6 37 (by decide +kernel)) (by decide +kernel)
theorem dX12_init_18 : decode cX12_init 18 = .ok (.putfield 13, 3) := DX12_init _ _ _ rfl
theorem dX12_init_21 : decode cX12_init 21 = .ok (.aload_n 0, 1) := DX12_init _ _ _ rfl
theorem dX12_init_22 : decode cX12_init 22 = .ok (.bipush 11, 2) := DX12_init _ _ _ rfl
theorem dX12_init_24 : decode cX12_init 24 = .ok (.newarray .int, 2) := DX12_init _ _ _ rfl
theorem m_1238 : (Cond.fieldLink "NoonValleyModel" 17 "NoonValleyModel" "lines" "[I") ∈ BW := bw (tb6 38 (by decide +kernel)) (by decide +kernel)
theorem dX12_init_26 : decode cX12_init 26 = .ok (.putfield 17, 3) := DX12_init _ _ _ rfl
theorem dX12_init_29 : decode cX12_init 29 = .ok (.aload_n 0, 1) := DX12_init _ _ _ rfl
theorem dX12_init_30 : decode cX12_init 30 = .ok (.bipush 11, 2) := DX12_init _ _ _ rfl
theorem dX12_init_32 : decode cX12_init 32 = .ok (.newarray .int, 2) := DX12_init _ _ _ rfl
theorem m_1239 : (Cond.fieldLink "NoonValleyModel" 20 "NoonValleyModel" "deaf" "[I") ∈ BW := bw (tb6 39 (by decide +kernel)) (by decide +kernel)
theorem dX12_init_34 : decode cX12_init 34 = .ok (.putfield 20, 3) := DX12_init _ _ _ rfl
theorem dX12_init_37 : decode cX12_init 37 = .ok (.aload_n 0, 1) := DX12_init _ _ _ rfl
theorem dX12_init_38 : decode cX12_init 38 = .ok (.bipush 44, 2) := DX12_init _ _ _ rfl
theorem dX12_init_40 : decode cX12_init 40 = .ok (.newarray .int, 2) := DX12_init _ _ _ rfl
theorem m_1240 : (Cond.fieldLink "NoonValleyModel" 23 "NoonValleyModel" "knows" "[I") ∈ BW := bw (tb6 40 (by decide +kernel)) (by decide +kernel)
theorem dX12_init_42 : decode cX12_init 42 = .ok (.putfield 23, 3) := DX12_init _ _ _ rfl
theorem dX12_init_45 : decode cX12_init 45 = .ok (.aload_n 0, 1) := DX12_init _ _ _ rfl
theorem dX12_init_46 : decode cX12_init 46 = .ok (.bipush 44, 2) := DX12_init _ _ _ rfl
theorem dX12_init_48 : decode cX12_init 48 = .ok (.newarray .int, 2) := DX12_init _ _ _ rfl
theorem m_1241 : (Cond.fieldLink "NoonValleyModel" 26 "NoonValleyModel" "musts" "[I") ∈ BW := bw (tb6 41 (by decide +kernel)) (by decide +kernel)
theorem dX12_init_50 : decode cX12_init 50 = .ok (.putfield 26, 3) := DX12_init _ _ _ rfl
theorem dX12_init_53 : decode cX12_init 53 = .ok (.aload_n 0, 1) := DX12_init _ _ _ rfl
theorem dX12_init_54 : decode cX12_init 54 = .ok (.bipush 44, 2) := DX12_init _ _ _ rfl
theorem dX12_init_56 : decode cX12_init 56 = .ok (.newarray .int, 2) := DX12_init _ _ _ rfl
theorem m_1242 : (Cond.fieldLink "NoonValleyModel" 29 "NoonValleyModel" "mustNots" "[I") ∈ BW := bw (tb6 42 (by decide +kernel)) (by decide +kernel)
theorem dX12_init_58 : decode cX12_init 58 = .ok (.putfield 29, 3) := DX12_init _ _ _ rfl
theorem dX12_init_61 : decode cX12_init 61 = .ok (.aload_n 0, 1) := DX12_init _ _ _ rfl
theorem dX12_init_62 : decode cX12_init 62 = .ok (.sipush 132, 3) := DX12_init _ _ _ rfl
theorem dX12_init_65 : decode cX12_init 65 = .ok (.newarray .int, 2) := DX12_init _ _ _ rfl
theorem m_1243 : (Cond.fieldLink "NoonValleyModel" 32 "NoonValleyModel" "lineA" "[I") ∈ BW := bw (tb6 43 (by decide +kernel)) (by decide +kernel)
theorem dX12_init_67 : decode cX12_init 67 = .ok (.putfield 32, 3) := DX12_init _ _ _ rfl
theorem dX12_init_70 : decode cX12_init 70 = .ok (.aload_n 0, 1) := DX12_init _ _ _ rfl
theorem dX12_init_71 : decode cX12_init 71 = .ok (.sipush 132, 3) := DX12_init _ _ _ rfl
theorem dX12_init_74 : decode cX12_init 74 = .ok (.newarray .int, 2) := DX12_init _ _ _ rfl
theorem m_1244 : (Cond.fieldLink "NoonValleyModel" 35 "NoonValleyModel" "lineB" "[I") ∈ BW := bw (tb6 44 (by decide +kernel)) (by decide +kernel)
theorem dX12_init_76 : decode cX12_init 76 = .ok (.putfield 35, 3) := DX12_init _ _ _ rfl
theorem dX12_init_79 : decode cX12_init 79 = .ok (.aload_n 0, 1) := DX12_init _ _ _ rfl
theorem dX12_init_80 : decode cX12_init 80 = .ok (.sipush 132, 3) := DX12_init _ _ _ rfl
theorem dX12_init_83 : decode cX12_init 83 = .ok (.newarray .int, 2) := DX12_init _ _ _ rfl
theorem m_1245 : (Cond.fieldLink "NoonValleyModel" 38 "NoonValleyModel" "lineF" "[I") ∈ BW := bw (tb6 45 (by decide +kernel)) (by decide +kernel)
theorem dX12_init_85 : decode cX12_init 85 = .ok (.putfield 38, 3) := DX12_init _ _ _ rfl
theorem dX12_init_88 : decode cX12_init 88 = .ok (.aload_n 0, 1) := DX12_init _ _ _ rfl
theorem dX12_init_89 : decode cX12_init 89 = .ok (.sipush 132, 3) := DX12_init _ _ _ rfl
theorem dX12_init_92 : decode cX12_init 92 = .ok (.newarray .int, 2) := DX12_init _ _ _ rfl
theorem m_1246 : (Cond.fieldLink "NoonValleyModel" 41 "NoonValleyModel" "lineT" "[I") ∈ BW := bw (tb6 46 (by decide +kernel)) (by decide +kernel)
theorem dX12_init_94 : decode cX12_init 94 = .ok (.putfield 41, 3) := DX12_init _ _ _ rfl
theorem dX12_init_97 : decode cX12_init 97 = .ok (.aload_n 0, 1) := DX12_init _ _ _ rfl
theorem dX12_init_98 : decode cX12_init 98 = .ok (.sipush 132, 3) := DX12_init _ _ _ rfl
theorem dX12_init_101 : decode cX12_init 101 = .ok (.newarray .int, 2) := DX12_init _ _ _ rfl
theorem m_1247 : (Cond.fieldLink "NoonValleyModel" 44 "NoonValleyModel" "lineDown" "[I") ∈ BW := bw (tb6 47 (by decide +kernel)) (by decide +kernel)
theorem dX12_init_103 : decode cX12_init 103 = .ok (.putfield 44, 3) := DX12_init _ _ _ rfl
theorem dX12_init_106 : decode cX12_init 106 = .ok (.aload_n 0, 1) := DX12_init _ _ _ rfl
theorem dX12_init_107 : decode cX12_init 107 = .ok (.sipush 132, 3) := DX12_init _ _ _ rfl
theorem dX12_init_110 : decode cX12_init 110 = .ok (.newarray .boolean, 2) := DX12_init _ _ _ rfl
theorem m_1248 : (Cond.fieldLink "NoonValleyModel" 47 "NoonValleyModel" "isOne" "[Z") ∈ BW := bw (tb6 48 (by decide +kernel)) (by decide +kernel)
theorem dX12_init_112 : decode cX12_init 112 = .ok (.putfield 47, 3) := DX12_init _ _ _ rfl
theorem dX12_init_115 : decode cX12_init 115 = .ok (.aload_n 0, 1) := DX12_init _ _ _ rfl
theorem dX12_init_116 : decode cX12_init 116 = .ok (.iconst (-1), 1) := DX12_init _ _ _ rfl
theorem m_1250 : (Cond.fieldLink "NoonValleyModel" 51 "NoonValleyModel" "moreA" "I") ∈ BW := bw (tb6 50 (by decide +kernel)) (by decide +kernel)
theorem dX12_init_117 : decode cX12_init 117 = .ok (.putfield 51, 3) := DX12_init _ _ _ rfl
theorem dX12_init_120 : decode cX12_init 120 = .ok (.aload_n 0, 1) := DX12_init _ _ _ rfl
theorem dX12_init_121 : decode cX12_init 121 = .ok (.iconst (-1), 1) := DX12_init _ _ _ rfl
theorem m_1251 : (Cond.fieldLink "NoonValleyModel" 55 "NoonValleyModel" "moreB" "I") ∈ BW := bw (tb6 51 (by decide +kernel)) (by decide +kernel)
theorem dX12_init_122 : decode cX12_init 122 = .ok (.putfield 55, 3) := DX12_init _ _ _ rfl
theorem dX12_init_125 : decode cX12_init 125 = .ok (.aload_n 0, 1) := DX12_init _ _ _ rfl
theorem dX12_init_126 : decode cX12_init 126 = .ok (.bipush 12, 2) := DX12_init _ _ _ rfl
theorem dX12_init_128 : decode cX12_init 128 = .ok (.newarray .int, 2) := DX12_init _ _ _ rfl
theorem m_1252 : (Cond.fieldLink "NoonValleyModel" 58 "NoonValleyModel" "planOf" "[I") ∈ BW := bw (tb6 52 (by decide +kernel)) (by decide +kernel)
theorem dX12_init_130 : decode cX12_init 130 = .ok (.putfield 58, 3) := DX12_init _ _ _ rfl
theorem dX12_init_133 : decode cX12_init 133 = .ok (.aload_n 0, 1) := DX12_init _ _ _ rfl
theorem dX12_init_134 : decode cX12_init 134 = .ok (.bipush 12, 2) := DX12_init _ _ _ rfl
theorem dX12_init_136 : decode cX12_init 136 = .ok (.newarray .int, 2) := DX12_init _ _ _ rfl
theorem m_1253 : (Cond.fieldLink "NoonValleyModel" 61 "NoonValleyModel" "calls" "[I") ∈ BW := bw (tb6 53 (by decide +kernel)) (by decide +kernel)
theorem dX12_init_138 : decode cX12_init 138 = .ok (.putfield 61, 3) := DX12_init _ _ _ rfl
theorem dX12_init_141 : decode cX12_init 141 = .ok (.aload_n 0, 1) := DX12_init _ _ _ rfl
theorem dX12_init_142 : decode cX12_init 142 = .ok (.sipush 480, 3) := DX12_init _ _ _ rfl
theorem dX12_init_145 : decode cX12_init 145 = .ok (.newarray .int, 2) := DX12_init _ _ _ rfl
theorem m_1254 : (Cond.fieldLink "NoonValleyModel" 64 "NoonValleyModel" "callHour" "[I") ∈ BW := bw (tb6 54 (by decide +kernel)) (by decide +kernel)
theorem dX12_init_147 : decode cX12_init 147 = .ok (.putfield 64, 3) := DX12_init _ _ _ rfl
theorem dX12_init_150 : decode cX12_init 150 = .ok (.aload_n 0, 1) := DX12_init _ _ _ rfl
theorem dX12_init_151 : decode cX12_init 151 = .ok (.sipush 480, 3) := DX12_init _ _ _ rfl
theorem dX12_init_154 : decode cX12_init 154 = .ok (.newarray .int, 2) := DX12_init _ _ _ rfl
theorem m_1255 : (Cond.fieldLink "NoonValleyModel" 67 "NoonValleyModel" "callKind" "[I") ∈ BW := bw (tb6 55 (by decide +kernel)) (by decide +kernel)
theorem dX12_init_156 : decode cX12_init 156 = .ok (.putfield 67, 3) := DX12_init _ _ _ rfl
theorem dX12_init_159 : decode cX12_init 159 = .ok (.aload_n 0, 1) := DX12_init _ _ _ rfl
theorem dX12_init_160 : decode cX12_init 160 = .ok (.sipush 480, 3) := DX12_init _ _ _ rfl
theorem dX12_init_163 : decode cX12_init 163 = .ok (.newarray .int, 2) := DX12_init _ _ _ rfl
theorem m_1256 : (Cond.fieldLink "NoonValleyModel" 70 "NoonValleyModel" "callOne" "[I") ∈ BW := bw (tb6 56 (by decide +kernel)) (by decide +kernel)
theorem dX12_init_165 : decode cX12_init 165 = .ok (.putfield 70, 3) := DX12_init _ _ _ rfl
theorem dX12_init_168 : decode cX12_init 168 = .ok (.aload_n 0, 1) := DX12_init _ _ _ rfl
theorem dX12_init_169 : decode cX12_init 169 = .ok (.sipush 480, 3) := DX12_init _ _ _ rfl
theorem dX12_init_172 : decode cX12_init 172 = .ok (.newarray .int, 2) := DX12_init _ _ _ rfl
theorem m_1257 : (Cond.fieldLink "NoonValleyModel" 73 "NoonValleyModel" "callOther" "[I") ∈ BW := bw (tb6 57 (by decide +kernel)) (by decide +kernel)
theorem dX12_init_174 : decode cX12_init 174 = .ok (.putfield 73, 3) := DX12_init _ _ _ rfl
theorem dX12_init_177 : decode cX12_init 177 = .ok (.aload_n 0, 1) := DX12_init _ _ _ rfl
theorem dX12_init_178 : decode cX12_init 178 = .ok (.bipush 40, 2) := DX12_init _ _ _ rfl
theorem dX12_init_180 : decode cX12_init 180 = .ok (.newarray .int, 2) := DX12_init _ _ _ rfl
theorem m_1259 : (Cond.fieldLink "NoonValleyModel" 76 "NoonValleyModel" "law" "[I") ∈ BW := bw (tb6 59 (by decide +kernel)) (by decide +kernel)
theorem dX12_init_182 : decode cX12_init 182 = .ok (.putfield 76, 3) := DX12_init _ _ _ rfl
theorem dX12_init_185 : decode cX12_init 185 = .ok (.aload_n 0, 1) := DX12_init _ _ _ rfl
theorem dX12_init_186 : decode cX12_init 186 = .ok (.bipush 40, 2) := DX12_init _ _ _ rfl
theorem dX12_init_188 : decode cX12_init 188 = .ok (.newarray .int, 2) := DX12_init _ _ _ rfl
theorem m_1260 : (Cond.fieldLink "NoonValleyModel" 79 "NoonValleyModel" "reached" "[I") ∈ BW := bw (tb6 60 (by decide +kernel)) (by decide +kernel)
theorem dX12_init_190 : decode cX12_init 190 = .ok (.putfield 79, 3) := DX12_init _ _ _ rfl
theorem dX12_init_193 : decode cX12_init 193 = .ok (.aload_n 0, 1) := DX12_init _ _ _ rfl
theorem dX12_init_194 : decode cX12_init 194 = .ok (.sipush 175, 3) := DX12_init _ _ _ rfl
theorem dX12_init_197 : decode cX12_init 197 = .ok (.newarray .int, 2) := DX12_init _ _ _ rfl
theorem m_1261 : (Cond.fieldLink "NoonValleyModel" 82 "NoonValleyModel" "after" "[I") ∈ BW := bw (tb6 61 (by decide +kernel)) (by decide +kernel)
theorem dX12_init_199 : decode cX12_init 199 = .ok (.putfield 82, 3) := DX12_init _ _ _ rfl
theorem dX12_init_202 : decode cX12_init 202 = .ok (.aload_n 0, 1) := DX12_init _ _ _ rfl
theorem dX12_init_203 : decode cX12_init 203 = .ok (.sipush 175, 3) := DX12_init _ _ _ rfl
theorem dX12_init_206 : decode cX12_init 206 = .ok (.newarray .int, 2) := DX12_init _ _ _ rfl
theorem m_1262 : (Cond.fieldLink "NoonValleyModel" 85 "NoonValleyModel" "once" "[I") ∈ BW := bw (tb6 62 (by decide +kernel)) (by decide +kernel)
theorem dX12_init_208 : decode cX12_init 208 = .ok (.putfield 85, 3) := DX12_init _ _ _ rfl
theorem dX12_init_211 : decode cX12_init 211 = .ok (.aload_n 0, 1) := DX12_init _ _ _ rfl
theorem dX12_init_212 : decode cX12_init 212 = .ok (.bipush 7, 2) := DX12_init _ _ _ rfl
theorem dX12_init_214 : decode cX12_init 214 = .ok (.newarray .int, 2) := DX12_init _ _ _ rfl
theorem m_1263 : (Cond.fieldLink "NoonValleyModel" 88 "NoonValleyModel" "fresh" "[I") ∈ BW := bw (tb6 63 (by decide +kernel)) (by decide +kernel)
theorem dX12_init_216 : decode cX12_init 216 = .ok (.putfield 88, 3) := DX12_init _ _ _ rfl
theorem dX12_init_219 : decode cX12_init 219 = .ok (.aload_n 0, 1) := DX12_init _ _ _ rfl
theorem dX12_init_220 : decode cX12_init 220 = .ok (.bipush 7, 2) := DX12_init _ _ _ rfl
theorem dX12_init_222 : decode cX12_init 222 = .ok (.newarray .int, 2) := DX12_init _ _ _ rfl
theorem m_1264 : (Cond.fieldLink "NoonValleyModel" 91 "NoonValleyModel" "twice" "[I") ∈ BW := bw (tb6 64 (by decide +kernel)) (by decide +kernel)
theorem dX12_init_224 : decode cX12_init 224 = .ok (.putfield 91, 3) := DX12_init _ _ _ rfl
theorem dX12_init_227 : decode cX12_init 227 = .ok (.aload_n 0, 1) := DX12_init _ _ _ rfl
theorem m_1229 : (Cond.constant "NoonValleyModel" 94 (425984 : Int32)) ∈ BW := bw (tb6 29 (by decide +kernel)) (by decide +kernel)
theorem dX12_init_228 : decode cX12_init 228 = .ok (.ldc 94, 2) := DX12_init _ _ _ rfl
theorem dX12_init_230 : decode cX12_init 230 = .ok (.newarray .byte, 2) := DX12_init _ _ _ rfl
theorem m_1265 : (Cond.fieldLink "NoonValleyModel" 95 "NoonValleyModel" "need" "[B") ∈ BW := bw (tb6 65 (by decide +kernel)) (by decide +kernel)
theorem dX12_init_232 : decode cX12_init 232 = .ok (.putfield 95, 3) := DX12_init _ _ _ rfl
theorem dX12_init_235 : decode cX12_init 235 = .ok (.aload_n 0, 1) := DX12_init _ _ _ rfl
theorem dX12_init_236 : decode cX12_init 236 = .ok (.bipush 7, 2) := DX12_init _ _ _ rfl
theorem dX12_init_238 : decode cX12_init 238 = .ok (.newarray .int, 2) := DX12_init _ _ _ rfl
theorem m_1266 : (Cond.fieldLink "NoonValleyModel" 98 "NoonValleyModel" "row" "[I") ∈ BW := bw (tb6 66 (by decide +kernel)) (by decide +kernel)
theorem dX12_init_240 : decode cX12_init 240 = .ok (.putfield 98, 3) := DX12_init _ _ _ rfl
theorem dX12_init_243 : decode cX12_init 243 = .ok (.aload_n 0, 1) := DX12_init _ _ _ rfl
theorem dX12_init_244 : decode cX12_init 244 = .ok (.bipush 7, 2) := DX12_init _ _ _ rfl
theorem dX12_init_246 : decode cX12_init 246 = .ok (.newarray .int, 2) := DX12_init _ _ _ rfl
theorem m_1267 : (Cond.fieldLink "NoonValleyModel" 101 "NoonValleyModel" "lowRow" "[I") ∈ BW := bw (tb6 67 (by decide +kernel)) (by decide +kernel)
theorem dX12_init_248 : decode cX12_init 248 = .ok (.putfield 101, 3) := DX12_init _ _ _ rfl
theorem dX12_init_251 : decode cX12_init 251 = .ok (.aload_n 0, 1) := DX12_init _ _ _ rfl
theorem dX12_init_252 : decode cX12_init 252 = .ok (.bipush 112, 2) := DX12_init _ _ _ rfl
theorem dX12_init_254 : decode cX12_init 254 = .ok (.newarray .int, 2) := DX12_init _ _ _ rfl
theorem m_1273 : (Cond.fieldLink "NoonValleyModel" 104 "NoonValleyModel" "things" "[I") ∈ BW := bw (tb6 73 (by decide +kernel)) (by decide +kernel)
theorem dX12_init_256 : decode cX12_init 256 = .ok (.putfield 104, 3) := DX12_init _ _ _ rfl
theorem dX12_init_259 : decode cX12_init 259 = .ok (.aload_n 0, 1) := DX12_init _ _ _ rfl
theorem dX12_init_260 : decode cX12_init 260 = .ok (.bipush 16, 2) := DX12_init _ _ _ rfl
theorem dX12_init_262 : decode cX12_init 262 = .ok (.newarray .int, 2) := DX12_init _ _ _ rfl
theorem m_1274 : (Cond.fieldLink "NoonValleyModel" 107 "NoonValleyModel" "gossipRow" "[I") ∈ BW := bw (tb6 74 (by decide +kernel)) (by decide +kernel)
theorem dX12_init_264 : decode cX12_init 264 = .ok (.putfield 107, 3) := DX12_init _ _ _ rfl
theorem dX12_init_267 : decode cX12_init 267 = .ok (.aload_n 0, 1) := DX12_init _ _ _ rfl
theorem dX12_init_268 : decode cX12_init 268 = .ok (.bipush 12, 2) := DX12_init _ _ _ rfl
theorem dX12_init_270 : decode cX12_init 270 = .ok (.newarray .boolean, 2) := DX12_init _ _ _ rfl
theorem m_1275 : (Cond.fieldLink "NoonValleyModel" 110 "NoonValleyModel" "isLower" "[Z") ∈ BW := bw (tb6 75 (by decide +kernel)) (by decide +kernel)
theorem dX12_init_272 : decode cX12_init 272 = .ok (.putfield 110, 3) := DX12_init _ _ _ rfl
theorem dX12_init_275 : decode cX12_init 275 = .ok (.aload_n 0, 1) := DX12_init _ _ _ rfl
theorem m_1230 : (Cond.constant "NoonValleyModel" 113 (65536 : Int32)) ∈ BW := bw (tb6 30 (by decide +kernel)) (by decide +kernel)
theorem dX12_init_276 : decode cX12_init 276 = .ok (.ldc 113, 2) := DX12_init _ _ _ rfl
theorem dX12_init_278 : decode cX12_init 278 = .ok (.newarray .int, 2) := DX12_init _ _ _ rfl
theorem m_1276 : (Cond.fieldLink "NoonValleyModel" 114 "NoonValleyModel" "cost" "[I") ∈ BW := bw (tb6 76 (by decide +kernel)) (by decide +kernel)
theorem dX12_init_280 : decode cX12_init 280 = .ok (.putfield 114, 3) := DX12_init _ _ _ rfl
theorem dX12_init_283 : decode cX12_init 283 = .ok (.aload_n 0, 1) := DX12_init _ _ _ rfl
theorem dX12_init_284 : decode cX12_init 284 = .ok (.ldc 113, 2) := DX12_init _ _ _ rfl
theorem dX12_init_286 : decode cX12_init 286 = .ok (.newarray .int, 2) := DX12_init _ _ _ rfl
theorem m_1277 : (Cond.fieldLink "NoonValleyModel" 117 "NoonValleyModel" "costNext" "[I") ∈ BW := bw (tb6 77 (by decide +kernel)) (by decide +kernel)
theorem dX12_init_288 : decode cX12_init 288 = .ok (.putfield 117, 3) := DX12_init _ _ _ rfl
theorem dX12_init_291 : decode cX12_init 291 = .ok (.aload_n 0, 1) := DX12_init _ _ _ rfl
theorem dX12_init_292 : decode cX12_init 292 = .ok (.bipush 9, 2) := DX12_init _ _ _ rfl
theorem dX12_init_294 : decode cX12_init 294 = .ok (.newarray .int, 2) := DX12_init _ _ _ rfl
theorem m_1278 : (Cond.fieldLink "NoonValleyModel" 120 "NoonValleyModel" "tradeCosts" "[I") ∈ BW := bw (tb6 78 (by decide +kernel)) (by decide +kernel)
theorem dX12_init_296 : decode cX12_init 296 = .ok (.putfield 120, 3) := DX12_init _ _ _ rfl
theorem dX12_init_299 : decode cX12_init 299 = .ok (.aload_n 0, 1) := DX12_init _ _ _ rfl
theorem dX12_init_300 : decode cX12_init 300 = .ok (.sipush 420, 3) := DX12_init _ _ _ rfl
theorem dX12_init_303 : decode cX12_init 303 = .ok (.newarray .int, 2) := DX12_init _ _ _ rfl
theorem m_1279 : (Cond.fieldLink "NoonValleyModel" 123 "NoonValleyModel" "cards" "[I") ∈ BW := bw (tb6 79 (by decide +kernel)) (by decide +kernel)
theorem dX12_init_305 : decode cX12_init 305 = .ok (.putfield 123, 3) := DX12_init _ _ _ rfl
theorem dX12_init_308 : decode cX12_init 308 = .ok (.aload_n 0, 1) := DX12_init _ _ _ rfl
theorem dX12_init_309 : decode cX12_init 309 = .ok (.bipush 77, 2) := DX12_init _ _ _ rfl
theorem dX12_init_311 : decode cX12_init 311 = .ok (.newarray .int, 2) := DX12_init _ _ _ rfl
theorem m_1280 : (Cond.fieldLink "NoonValleyModel" 126 "NoonValleyModel" "cardLong" "[I") ∈ BW := bw (tb6 80 (by decide +kernel)) (by decide +kernel)
theorem dX12_init_313 : decode cX12_init 313 = .ok (.putfield 126, 3) := DX12_init _ _ _ rfl
theorem dX12_init_316 : decode cX12_init 316 = .ok (.aload_n 0, 1) := DX12_init _ _ _ rfl
theorem dX12_init_317 : decode cX12_init 317 = .ok (.bipush 7, 2) := DX12_init _ _ _ rfl
theorem dX12_init_319 : decode cX12_init 319 = .ok (.newarray .int, 2) := DX12_init _ _ _ rfl
theorem m_1281 : (Cond.fieldLink "NoonValleyModel" 129 "NoonValleyModel" "gone" "[I") ∈ BW := bw (tb6 81 (by decide +kernel)) (by decide +kernel)
theorem dX12_init_321 : decode cX12_init 321 = .ok (.putfield 129, 3) := DX12_init _ _ _ rfl
theorem dX12_init_324 : decode cX12_init 324 = .ok (.aload_n 0, 1) := DX12_init _ _ _ rfl
theorem dX12_init_325 : decode cX12_init 325 = .ok (.bipush 49, 2) := DX12_init _ _ _ rfl
theorem dX12_init_327 : decode cX12_init 327 = .ok (.newarray .int, 2) := DX12_init _ _ _ rfl
theorem m_1282 : (Cond.fieldLink "NoonValleyModel" 132 "NoonValleyModel" "below" "[I") ∈ BW := bw (tb6 82 (by decide +kernel)) (by decide +kernel)
theorem dX12_init_329 : decode cX12_init 329 = .ok (.putfield 132, 3) := DX12_init _ _ _ rfl
theorem dX12_init_332 : decode cX12_init 332 = .ok (.aload_n 0, 1) := DX12_init _ _ _ rfl
theorem dX12_init_333 : decode cX12_init 333 = .ok (.bipush 7, 2) := DX12_init _ _ _ rfl
theorem dX12_init_335 : decode cX12_init 335 = .ok (.newarray .int, 2) := DX12_init _ _ _ rfl
theorem m_1283 : (Cond.fieldLink "NoonValleyModel" 135 "NoonValleyModel" "belowMany" "[I") ∈ BW := bw (tb6 83 (by decide +kernel)) (by decide +kernel)
theorem dX12_init_337 : decode cX12_init 337 = .ok (.putfield 135, 3) := DX12_init _ _ _ rfl
theorem dX12_init_340 : decode cX12_init 340 = .ok (.aload_n 0, 1) := DX12_init _ _ _ rfl
theorem dX12_init_341 : decode cX12_init 341 = .ok (.bipush 7, 2) := DX12_init _ _ _ rfl
theorem dX12_init_343 : decode cX12_init 343 = .ok (.newarray .int, 2) := DX12_init _ _ _ rfl
theorem m_1284 : (Cond.fieldLink "NoonValleyModel" 138 "NoonValleyModel" "time" "[I") ∈ BW := bw (tb6 84 (by decide +kernel)) (by decide +kernel)
theorem dX12_init_345 : decode cX12_init 345 = .ok (.putfield 138, 3) := DX12_init _ _ _ rfl
theorem dX12_init_348 : decode cX12_init 348 = .ok (.aload_n 0, 1) := DX12_init _ _ _ rfl
theorem dX12_init_349 : decode cX12_init 349 = .ok (.iconst 3, 1) := DX12_init _ _ _ rfl
theorem dX12_init_350 : decode cX12_init 350 = .ok (.newarray .int, 2) := DX12_init _ _ _ rfl
theorem m_1285 : (Cond.fieldLink "NoonValleyModel" 141 "NoonValleyModel" "broken" "[I") ∈ BW := bw (tb6 85 (by decide +kernel)) (by decide +kernel)
theorem dX12_init_352 : decode cX12_init 352 = .ok (.putfield 141, 3) := DX12_init _ _ _ rfl
theorem dX12_init_355 : decode cX12_init 355 = .ok (.aload_n 0, 1) := DX12_init _ _ _ rfl
theorem dX12_init_356 : decode cX12_init 356 = .ok (.bipush 16, 2) := DX12_init _ _ _ rfl
theorem dX12_init_358 : decode cX12_init 358 = .ok (.newarray .long, 2) := DX12_init _ _ _ rfl
theorem m_1286 : (Cond.fieldLink "NoonValleyModel" 144 "NoonValleyModel" "ways" "[J") ∈ BW := bw (tb6 86 (by decide +kernel)) (by decide +kernel)
theorem dX12_init_360 : decode cX12_init 360 = .ok (.putfield 144, 3) := DX12_init _ _ _ rfl
theorem dX12_init_363 : decode cX12_init 363 = .ok (.aload_n 0, 1) := DX12_init _ _ _ rfl
theorem dX12_init_364 : decode cX12_init 364 = .ok (.bipush 16, 2) := DX12_init _ _ _ rfl
theorem dX12_init_366 : decode cX12_init 366 = .ok (.newarray .long, 2) := DX12_init _ _ _ rfl
theorem m_1287 : (Cond.fieldLink "NoonValleyModel" 148 "NoonValleyModel" "waysNext" "[J") ∈ BW := bw (tb6 87 (by decide +kernel)) (by decide +kernel)
theorem dX12_init_368 : decode cX12_init 368 = .ok (.putfield 148, 3) := DX12_init _ _ _ rfl
theorem dX12_init_371 : decode cX12_init 371 = .ok (.aload_n 0, 1) := DX12_init _ _ _ rfl
theorem dX12_init_372 : decode cX12_init 372 = .ok (.sipush 308, 3) := DX12_init _ _ _ rfl
theorem dX12_init_375 : decode cX12_init 375 = .ok (.newarray .int, 2) := DX12_init _ _ _ rfl
theorem m_1288 : (Cond.fieldLink "NoonValleyModel" 151 "NoonValleyModel" "tales" "[I") ∈ BW := bw (tb6 88 (by decide +kernel)) (by decide +kernel)
theorem dX12_init_377 : decode cX12_init 377 = .ok (.putfield 151, 3) := DX12_init _ _ _ rfl
theorem dX12_init_380 : decode cX12_init 380 = .ok (.aload_n 0, 1) := DX12_init _ _ _ rfl
theorem dX12_init_381 : decode cX12_init 381 = .ok (.sipush 16384, 3) := DX12_init _ _ _ rfl
theorem dX12_init_384 : decode cX12_init 384 = .ok (.newarray .boolean, 2) := DX12_init _ _ _ rfl
theorem m_1289 : (Cond.fieldLink "NoonValleyModel" 154 "NoonValleyModel" "can" "[Z") ∈ BW := bw (tb6 89 (by decide +kernel)) (by decide +kernel)
theorem dX12_init_386 : decode cX12_init 386 = .ok (.putfield 154, 3) := DX12_init _ _ _ rfl
theorem dX12_init_389 : decode cX12_init 389 = .ok (.aload_n 0, 1) := DX12_init _ _ _ rfl
theorem dX12_init_390 : decode cX12_init 390 = .ok (.sipush 16384, 3) := DX12_init _ _ _ rfl
theorem dX12_init_393 : decode cX12_init 393 = .ok (.newarray .boolean, 2) := DX12_init _ _ _ rfl
theorem m_1290 : (Cond.fieldLink "NoonValleyModel" 157 "NoonValleyModel" "canNext" "[Z") ∈ BW := bw (tb6 90 (by decide +kernel)) (by decide +kernel)
theorem dX12_init_395 : decode cX12_init 395 = .ok (.putfield 157, 3) := DX12_init _ _ _ rfl
theorem dX12_init_398 : decode cX12_init 398 = .ok (.return_, 1) := DX12_init _ _ _ rfl

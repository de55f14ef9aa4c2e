theorem m_34 : (Cond.code yX8_init prog_10_method_1_code 1 (Option.none : Option Jvm.ClassFile.FieldType)) ∈ BW := bw (tb1 34 (by decide +kernel)) (by decide +kernel)
theorem dX8_init_0 : decode cX8_init 0 = .ok (.aload_n 0, 1) := by decide +kernel
theorem m_35 : (Cond.methodLink "NoonValley$Tape" 3 objectInit) ∈ BW := bw (tb1 35 (by decide +kernel)) (by decide +kernel)
theorem m_28 : (Cond.instanceMethod objectInit) ∈ BW := bw (tb1 28 (by decide +kernel)) (by decide +kernel)
theorem m_29 : (Cond.code objectInit object_method_1_code 1 (Option.none : Option Jvm.ClassFile.FieldType)) ∈ BW := bw (tb1 29 (by decide +kernel)) (by decide +kernel)
theorem dX8_init_1 : decode cX8_init 1 = .ok (.invokespecial 3, 3) := by decide +kernel
theorem dX8_init_4 : decode cX8_init 4 = .ok (.aload_n 0, 1) := by decide +kernel
theorem dX8_init_5 : decode cX8_init 5 = .ok (.sipush 400, 3) := by decide +kernel
theorem m_47 : (Cond.arrayClass FieldType.int) ∈ BW := bw (tb1 47 (by decide +kernel)) (by decide +kernel)
theorem dX8_init_8 : decode cX8_init 8 = .ok (.newarray .int, 2) := by decide +kernel
theorem m_40 : (Cond.laysFinal "NoonValley$Tape" "NoonValley$Tape" "bytes" "[I") ∈ BW := bw (tb1 40 (by decide +kernel)) (by decide +kernel)
theorem m_42 : (Cond.lays "NoonValley$Tape" "NoonValley$Tape" "length" "I") ∈ BW := bw (tb1 42 (by decide +kernel)) (by decide +kernel)
theorem m_44 : (Cond.lays "NoonValley$Tape" "NoonValley$Tape" "place" "I") ∈ BW := bw (tb1 44 (by decide +kernel)) (by decide +kernel)
theorem ciX8 : CI 8 RX8 TX8 3 tyX8 := ⟨rfl, fun w hw => by
  obtain ⟨k, hk, rfl⟩ := List.mem_map.mp hw
  have hk := List.mem_range.mp hk
  match k, hk with
  | 0, _ => exact m_40
  | 1, _ => exact m_42
  | 2, _ => exact m_44
  | k + 3, h => exact absurd h (by omega), tyX8_ok, nmX8⟩
theorem m_36 : (Cond.fieldLink "NoonValley$Tape" 11 "NoonValley$Tape" "bytes" "[I") ∈ BW := bw (tb1 36 (by decide +kernel)) (by decide +kernel)
theorem dX8_init_10 : decode cX8_init 10 = .ok (.putfield 11, 3) := by decide +kernel
theorem dX8_init_13 : decode cX8_init 13 = .ok (.return_, 1) := by decide +kernel
theorem m_56 : (Cond.code yX1_init prog_3_method_1_code 1 (Option.none : Option Jvm.ClassFile.FieldType)) ∈ BW := bw (tb1 56 (by decide +kernel)) (by decide +kernel)
theorem dX1_init_0 : decode cX1_init 0 = .ok (.aload_n 0, 1) := by decide +kernel
theorem m_57 : (Cond.methodLink "NoonValley$Carrying" 3 objectInit) ∈ BW := bw (tb1 57 (by decide +kernel)) (by decide +kernel)
theorem dX1_init_1 : decode cX1_init 1 = .ok (.invokespecial 3, 3) := by decide +kernel
theorem dX1_init_4 : decode cX1_init 4 = .ok (.aload_n 0, 1) := by decide +kernel
theorem dX1_init_5 : decode cX1_init 5 = .ok (.bipush 7, 2) := by decide +kernel
theorem dX1_init_7 : decode cX1_init 7 = .ok (.newarray .int, 2) := by decide +kernel
theorem m_64 : (Cond.laysFinal "NoonValley$Carrying" "NoonValley$Carrying" "known" "[I") ∈ BW := bw (tb1 64 (by decide +kernel)) (by decide +kernel)
theorem m_66 : (Cond.laysFinal "NoonValley$Carrying" "NoonValley$Carrying" "toldOnce" "[I") ∈ BW := bw (tb1 66 (by decide +kernel)) (by decide +kernel)
theorem m_68 : (Cond.lays "NoonValley$Carrying" "NoonValley$Carrying" "deaf" "I") ∈ BW := bw (tb1 68 (by decide +kernel)) (by decide +kernel)
theorem m_70 : (Cond.lays "NoonValley$Carrying" "NoonValley$Carrying" "useful" "J") ∈ BW := bw (tb1 70 (by decide +kernel)) (by decide +kernel)
theorem m_72 : (Cond.lays "NoonValley$Carrying" "NoonValley$Carrying" "breaking" "J") ∈ BW := bw (tb1 72 (by decide +kernel)) (by decide +kernel)
theorem ciX1 : CI 1 RX1 TX1 5 tyX1 := ⟨rfl, fun w hw => by
  obtain ⟨k, hk, rfl⟩ := List.mem_map.mp hw
  have hk := List.mem_range.mp hk
  match k, hk with
  | 0, _ => exact m_64
  | 1, _ => exact m_66
  | 2, _ => exact m_68
  | 3, _ => exact m_70
  | 4, _ => exact m_72
  | k + 5, h => exact absurd h (by omega), tyX1_ok, nmX1⟩
theorem m_58 : (Cond.fieldLink "NoonValley$Carrying" 9 "NoonValley$Carrying" "known" "[I") ∈ BW := bw (tb1 58 (by decide +kernel)) (by decide +kernel)
theorem dX1_init_9 : decode cX1_init 9 = .ok (.putfield 9, 3) := by decide +kernel
theorem dX1_init_12 : decode cX1_init 12 = .ok (.aload_n 0, 1) := by decide +kernel
theorem dX1_init_13 : decode cX1_init 13 = .ok (.bipush 7, 2) := by decide +kernel
theorem dX1_init_15 : decode cX1_init 15 = .ok (.newarray .int, 2) := by decide +kernel
theorem m_60 : (Cond.fieldLink "NoonValley$Carrying" 15 "NoonValley$Carrying" "toldOnce" "[I") ∈ BW := bw (tb1 60 (by decide +kernel)) (by decide +kernel)
theorem dX1_init_17 : decode cX1_init 17 = .ok (.putfield 15, 3) := by decide +kernel
theorem dX1_init_20 : decode cX1_init 20 = .ok (.return_, 1) := by decide +kernel
theorem m_85 : (Cond.code yX5_init prog_7_method_1_code 1 (Option.none : Option Jvm.ClassFile.FieldType)) ∈ BW := bw (tb1 85 (by decide +kernel)) (by decide +kernel)
theorem dX5_init_0 : decode cX5_init 0 = .ok (.aload_n 0, 1) := by decide +kernel
theorem m_86 : (Cond.methodLink "NoonValley$Rows" 3 objectInit) ∈ BW := bw (tb1 86 (by decide +kernel)) (by decide +kernel)
theorem dX5_init_1 : decode cX5_init 1 = .ok (.invokespecial 3, 3) := by decide +kernel
theorem dX5_init_4 : decode cX5_init 4 = .ok (.aload_n 0, 1) := by decide +kernel
theorem dX5_init_5 : decode cX5_init 5 = .ok (.sipush 128, 3) := by decide +kernel
theorem dX5_init_8 : decode cX5_init 8 = .ok (.newarray .int, 2) := by decide +kernel
theorem m_96 : (Cond.laysFinal "NoonValley$Rows" "NoonValley$Rows" "sets" "[I") ∈ BW := bw (tb1 96 (by decide +kernel)) (by decide +kernel)
theorem m_98 : (Cond.laysFinal "NoonValley$Rows" "NoonValley$Rows" "rows" "[I") ∈ BW := bw (tb1 98 (by decide +kernel)) (by decide +kernel)
theorem m_100 : (Cond.laysFinal "NoonValley$Rows" "NoonValley$Rows" "met" "[Z") ∈ BW := bw (tb1 100 (by decide +kernel)) (by decide +kernel)
theorem m_102 : (Cond.lays "NoonValley$Rows" "NoonValley$Rows" "count" "I") ∈ BW := bw (tb1 102 (by decide +kernel)) (by decide +kernel)
theorem m_104 : (Cond.laysFinal "NoonValley$Rows" "NoonValley$Rows" "choices" "[I") ∈ BW := bw (tb1 104 (by decide +kernel)) (by decide +kernel)
theorem m_106 : (Cond.lays "NoonValley$Rows" "NoonValley$Rows" "people" "I") ∈ BW := bw (tb1 106 (by decide +kernel)) (by decide +kernel)
theorem ciX5 : CI 5 RX5 TX5 6 tyX5 := ⟨rfl, fun w hw => by
  obtain ⟨k, hk, rfl⟩ := List.mem_map.mp hw
  have hk := List.mem_range.mp hk
  match k, hk with
  | 0, _ => exact m_96
  | 1, _ => exact m_98
  | 2, _ => exact m_100
  | 3, _ => exact m_102
  | 4, _ => exact m_104
  | 5, _ => exact m_106
  | k + 6, h => exact absurd h (by omega), tyX5_ok, nmX5⟩
theorem m_87 : (Cond.fieldLink "NoonValley$Rows" 11 "NoonValley$Rows" "sets" "[I") ∈ BW := bw (tb1 87 (by decide +kernel)) (by decide +kernel)
theorem dX5_init_10 : decode cX5_init 10 = .ok (.putfield 11, 3) := by decide +kernel
theorem dX5_init_13 : decode cX5_init 13 = .ok (.aload_n 0, 1) := by decide +kernel
theorem dX5_init_14 : decode cX5_init 14 = .ok (.sipush 128, 3) := by decide +kernel
theorem dX5_init_17 : decode cX5_init 17 = .ok (.newarray .int, 2) := by decide +kernel
theorem m_89 : (Cond.fieldLink "NoonValley$Rows" 15 "NoonValley$Rows" "rows" "[I") ∈ BW := bw (tb1 89 (by decide +kernel)) (by decide +kernel)
theorem dX5_init_19 : decode cX5_init 19 = .ok (.putfield 15, 3) := by decide +kernel
theorem dX5_init_22 : decode cX5_init 22 = .ok (.aload_n 0, 1) := by decide +kernel
theorem dX5_init_23 : decode cX5_init 23 = .ok (.sipush 128, 3) := by decide +kernel
theorem m_109 : (Cond.arrayClass FieldType.boolean) ∈ BW := bw (tb1 109 (by decide +kernel)) (by decide +kernel)
theorem dX5_init_26 : decode cX5_init 26 = .ok (.newarray .boolean, 2) := by decide +kernel
theorem m_91 : (Cond.fieldLink "NoonValley$Rows" 18 "NoonValley$Rows" "met" "[Z") ∈ BW := bw (tb1 91 (by decide +kernel)) (by decide +kernel)
theorem dX5_init_28 : decode cX5_init 28 = .ok (.putfield 18, 3) := by decide +kernel
theorem dX5_init_31 : decode cX5_init 31 = .ok (.aload_n 0, 1) := by decide +kernel
theorem dX5_init_32 : decode cX5_init 32 = .ok (.bipush 7, 2) := by decide +kernel
theorem dX5_init_34 : decode cX5_init 34 = .ok (.newarray .int, 2) := by decide +kernel
theorem m_94 : (Cond.fieldLink "NoonValley$Rows" 22 "NoonValley$Rows" "choices" "[I") ∈ BW := bw (tb1 94 (by decide +kernel)) (by decide +kernel)
theorem dX5_init_36 : decode cX5_init 36 = .ok (.putfield 22, 3) := by decide +kernel
theorem dX5_init_39 : decode cX5_init 39 = .ok (.return_, 1) := by decide +kernel
theorem m_172 : (Cond.code yX6_init prog_8_method_1_code 1 (Option.none : Option Jvm.ClassFile.FieldType)) ∈ BW := bw (tb1 172 (by decide +kernel)) (by decide +kernel)
theorem dX6_init_0 : decode cX6_init 0 = .ok (.aload_n 0, 1) := by decide +kernel
theorem m_173 : (Cond.methodLink "NoonValley$Shutting" 3 objectInit) ∈ BW := bw (tb1 173 (by decide +kernel)) (by decide +kernel)
theorem dX6_init_1 : decode cX6_init 1 = .ok (.invokespecial 3, 3) := by decide +kernel
theorem dX6_init_4 : decode cX6_init 4 = .ok (.return_, 1) := by decide +kernel
theorem m_194 : (Cond.code yX3_init prog_5_method_1_code 1 (Option.none : Option Jvm.ClassFile.FieldType)) ∈ BW := bw (tb1 194 (by decide +kernel)) (by decide +kernel)
theorem dX3_init_0 : decode cX3_init 0 = .ok (.aload_n 0, 1) := by decide +kernel
theorem m_195 : (Cond.methodLink "NoonValley$Gossip" 3 objectInit) ∈ BW := bw (tb1 195 (by decide +kernel)) (by decide +kernel)
theorem dX3_init_1 : decode cX3_init 1 = .ok (.invokespecial 3, 3) := by decide +kernel
theorem dX3_init_4 : decode cX3_init 4 = .ok (.aload_n 0, 1) := by decide +kernel
theorem dX3_init_5 : decode cX3_init 5 = .ok (.iconst 5, 1) := by decide +kernel
theorem dX3_init_6 : decode cX3_init 6 = .ok (.newarray .int, 2) := by decide +kernel
theorem m_199 : (Cond.lays "NoonValley$Gossip" "NoonValley$Gossip" "valley" "LNoonValley$Valley;") ∈ BW := bw (tb1 199 (by decide +kernel)) (by decide +kernel)
theorem m_201 : (Cond.lays "NoonValley$Gossip" "NoonValley$Gossip" "all" "I") ∈ BW := bw (tb1 201 (by decide +kernel)) (by decide +kernel)
theorem m_203 : (Cond.laysFinal "NoonValley$Gossip" "NoonValley$Gossip" "knows" "[I") ∈ BW := bw (tb1 203 (by decide +kernel)) (by decide +kernel)
theorem ciX3 : CI 3 RX3 TX3 3 tyX3 := ⟨rfl, fun w hw => by
  obtain ⟨k, hk, rfl⟩ := List.mem_map.mp hw
  have hk := List.mem_range.mp hk
  match k, hk with
  | 0, _ => exact m_199
  | 1, _ => exact m_201
  | 2, _ => exact m_203
  | k + 3, h => exact absurd h (by omega), tyX3_ok, nmX3⟩
theorem m_198 : (Cond.fieldLink "NoonValley$Gossip" 11 "NoonValley$Gossip" "knows" "[I") ∈ BW := bw (tb1 198 (by decide +kernel)) (by decide +kernel)
theorem dX3_init_8 : decode cX3_init 8 = .ok (.putfield 11, 3) := by decide +kernel
theorem dX3_init_11 : decode cX3_init 11 = .ok (.return_, 1) := by decide +kernel
theorem m_210 : (Cond.code yX9_init prog_11_method_1_code 1 (Option.none : Option Jvm.ClassFile.FieldType)) ∈ BW := bw (tb1 210 (by decide +kernel)) (by decide +kernel)
theorem dX9_init_0 : decode cX9_init 0 = .ok (.aload_n 0, 1) := by decide +kernel
theorem m_211 : (Cond.methodLink "NoonValley$Trade" 3 objectInit) ∈ BW := bw (tb1 211 (by decide +kernel)) (by decide +kernel)
theorem dX9_init_1 : decode cX9_init 1 = .ok (.invokespecial 3, 3) := by decide +kernel
theorem dX9_init_4 : decode cX9_init 4 = .ok (.aload_n 0, 1) := by decide +kernel
theorem dX9_init_5 : decode cX9_init 5 = .ok (.sipush 4096, 3) := by decide +kernel
theorem dX9_init_8 : decode cX9_init 8 = .ok (.newarray .int, 2) := by decide +kernel
theorem m_217 : (Cond.lays "NoonValley$Trade" "NoonValley$Trade" "now" "[I") ∈ BW := bw (tb1 217 (by decide +kernel)) (by decide +kernel)
theorem m_219 : (Cond.lays "NoonValley$Trade" "NoonValley$Trade" "next" "[I") ∈ BW := bw (tb1 219 (by decide +kernel)) (by decide +kernel)
theorem m_221 : (Cond.laysFinal "NoonValley$Trade" "NoonValley$Trade" "open" "[Z") ∈ BW := bw (tb1 221 (by decide +kernel)) (by decide +kernel)
theorem ciX9 : CI 9 RX9 TX9 3 tyX9 := ⟨rfl, fun w hw => by
  obtain ⟨k, hk, rfl⟩ := List.mem_map.mp hw
  have hk := List.mem_range.mp hk
  match k, hk with
  | 0, _ => exact m_217
  | 1, _ => exact m_219
  | 2, _ => exact m_221
  | k + 3, h => exact absurd h (by omega), tyX9_ok, nmX9⟩
theorem m_214 : (Cond.fieldLink "NoonValley$Trade" 11 "NoonValley$Trade" "now" "[I") ∈ BW := bw (tb1 214 (by decide +kernel)) (by decide +kernel)
theorem dX9_init_10 : decode cX9_init 10 = .ok (.putfield 11, 3) := by decide +kernel
theorem dX9_init_13 : decode cX9_init 13 = .ok (.aload_n 0, 1) := by decide +kernel
theorem dX9_init_14 : decode cX9_init 14 = .ok (.sipush 4096, 3) := by decide +kernel
theorem dX9_init_17 : decode cX9_init 17 = .ok (.newarray .int, 2) := by decide +kernel
theorem m_215 : (Cond.fieldLink "NoonValley$Trade" 15 "NoonValley$Trade" "next" "[I") ∈ BW := bw (tb1 215 (by decide +kernel)) (by decide +kernel)
theorem dX9_init_19 : decode cX9_init 19 = .ok (.putfield 15, 3) := by decide +kernel
theorem dX9_init_22 : decode cX9_init 22 = .ok (.aload_n 0, 1) := by decide +kernel
theorem m_212 : (Cond.fieldLink "NoonValley$Trade" 18 "NoonValley$Trade" "COUPLE_A" "[I") ∈ BW := bw (tb1 212 (by decide +kernel)) (by decide +kernel)
theorem dX9_init_23 : decode cX9_init 23 = .ok (.getstatic 18, 3) := by decide +kernel
theorem dX9_init_26 : decode cX9_init 26 = .ok (.arraylength, 1) := by decide +kernel
theorem dX9_init_27 : decode cX9_init 27 = .ok (.newarray .boolean, 2) := by decide +kernel
theorem m_216 : (Cond.fieldLink "NoonValley$Trade" 21 "NoonValley$Trade" "open" "[Z") ∈ BW := bw (tb1 216 (by decide +kernel)) (by decide +kernel)
theorem dX9_init_29 : decode cX9_init 29 = .ok (.putfield 21, 3) := by decide +kernel
theorem dX9_init_32 : decode cX9_init 32 = .ok (.return_, 1) := by decide +kernel
theorem m_228 : (Cond.code yX0_init prog_2_method_1_code 1 (Option.none : Option Jvm.ClassFile.FieldType)) ∈ BW := bw (tb1 228 (by decide +kernel)) (by decide +kernel)
theorem dX0_init_0 : decode cX0_init 0 = .ok (.aload_n 0, 1) := by decide +kernel
theorem m_229 : (Cond.methodLink "NoonValley$Cards" 3 objectInit) ∈ BW := bw (tb1 229 (by decide +kernel)) (by decide +kernel)
theorem dX0_init_1 : decode cX0_init 1 = .ok (.invokespecial 3, 3) := by decide +kernel
theorem dX0_init_4 : decode cX0_init 4 = .ok (.aload_n 0, 1) := by decide +kernel
theorem dX0_init_5 : decode cX0_init 5 = .ok (.bipush 7, 2) := by decide +kernel
theorem dX0_init_7 : decode cX0_init 7 = .ok (.newarray .int, 2) := by decide +kernel
theorem m_238 : (Cond.lays "NoonValley$Cards" "NoonValley$Cards" "valley" "LNoonValley$Valley;") ∈ BW := bw (tb1 238 (by decide +kernel)) (by decide +kernel)
theorem m_240 : (Cond.lays "NoonValley$Cards" "NoonValley$Cards" "known" "I") ∈ BW := bw (tb2 0 (by decide +kernel)) (by decide +kernel)
theorem m_242 : (Cond.lays "NoonValley$Cards" "NoonValley$Cards" "once" "I") ∈ BW := bw (tb2 2 (by decide +kernel)) (by decide +kernel)
theorem m_244 : (Cond.laysFinal "NoonValley$Cards" "NoonValley$Cards" "called" "[I") ∈ BW := bw (tb2 4 (by decide +kernel)) (by decide +kernel)
theorem m_246 : (Cond.laysFinal "NoonValley$Cards" "NoonValley$Cards" "time" "[I") ∈ BW := bw (tb2 6 (by decide +kernel)) (by decide +kernel)
theorem m_248 : (Cond.laysFinal "NoonValley$Cards" "NoonValley$Cards" "children" "[I") ∈ BW := bw (tb2 8 (by decide +kernel)) (by decide +kernel)
theorem m_250 : (Cond.laysFinal "NoonValley$Cards" "NoonValley$Cards" "order" "[I") ∈ BW := bw (tb2 10 (by decide +kernel)) (by decide +kernel)
theorem ciX0 : CI 0 RX0 TX0 7 tyX0 := ⟨rfl, fun w hw => by
  obtain ⟨k, hk, rfl⟩ := List.mem_map.mp hw
  have hk := List.mem_range.mp hk
  match k, hk with
  | 0, _ => exact m_238
  | 1, _ => exact m_240
  | 2, _ => exact m_242
  | 3, _ => exact m_244
  | 4, _ => exact m_246
  | 5, _ => exact m_248
  | 6, _ => exact m_250
  | k + 7, h => exact absurd h (by omega), tyX0_ok, nmX0⟩
theorem m_233 : (Cond.fieldLink "NoonValley$Cards" 9 "NoonValley$Cards" "called" "[I") ∈ BW := bw (tb1 233 (by decide +kernel)) (by decide +kernel)
theorem dX0_init_9 : decode cX0_init 9 = .ok (.putfield 9, 3) := by decide +kernel
theorem dX0_init_12 : decode cX0_init 12 = .ok (.aload_n 0, 1) := by decide +kernel
theorem dX0_init_13 : decode cX0_init 13 = .ok (.bipush 7, 2) := by decide +kernel
theorem dX0_init_15 : decode cX0_init 15 = .ok (.newarray .int, 2) := by decide +kernel
theorem m_234 : (Cond.fieldLink "NoonValley$Cards" 15 "NoonValley$Cards" "time" "[I") ∈ BW := bw (tb1 234 (by decide +kernel)) (by decide +kernel)
theorem dX0_init_17 : decode cX0_init 17 = .ok (.putfield 15, 3) := by decide +kernel
theorem dX0_init_20 : decode cX0_init 20 = .ok (.aload_n 0, 1) := by decide +kernel
theorem dX0_init_21 : decode cX0_init 21 = .ok (.bipush 7, 2) := by decide +kernel
theorem dX0_init_23 : decode cX0_init 23 = .ok (.newarray .int, 2) := by decide +kernel
theorem m_236 : (Cond.fieldLink "NoonValley$Cards" 18 "NoonValley$Cards" "children" "[I") ∈ BW := bw (tb1 236 (by decide +kernel)) (by decide +kernel)
theorem dX0_init_25 : decode cX0_init 25 = .ok (.putfield 18, 3) := by decide +kernel
theorem dX0_init_28 : decode cX0_init 28 = .ok (.aload_n 0, 1) := by decide +kernel
theorem dX0_init_29 : decode cX0_init 29 = .ok (.bipush 7, 2) := by decide +kernel
theorem dX0_init_31 : decode cX0_init 31 = .ok (.newarray .int, 2) := by decide +kernel
theorem m_237 : (Cond.fieldLink "NoonValley$Cards" 21 "NoonValley$Cards" "order" "[I") ∈ BW := bw (tb1 237 (by decide +kernel)) (by decide +kernel)
theorem dX0_init_33 : decode cX0_init 33 = .ok (.putfield 21, 3) := by decide +kernel
theorem dX0_init_36 : decode cX0_init 36 = .ok (.return_, 1) := by decide +kernel
theorem m_257 : (Cond.code yX2_init prog_4_method_1_code 1 (Option.none : Option Jvm.ClassFile.FieldType)) ∈ BW := bw (tb2 17 (by decide +kernel)) (by decide +kernel)
theorem dX2_init_0 : decode cX2_init 0 = .ok (.aload_n 0, 1) := by decide +kernel
theorem m_258 : (Cond.methodLink "NoonValley$Chance" 3 objectInit) ∈ BW := bw (tb2 18 (by decide +kernel)) (by decide +kernel)
theorem dX2_init_1 : decode cX2_init 1 = .ok (.invokespecial 3, 3) := by decide +kernel
theorem dX2_init_4 : decode cX2_init 4 = .ok (.aload_n 0, 1) := by decide +kernel
theorem dX2_init_5 : decode cX2_init 5 = .ok (.iconst 5, 1) := by decide +kernel
theorem m_266 : (Cond.arrayClass FieldType.long) ∈ BW := bw (tb2 26 (by decide +kernel)) (by decide +kernel)
theorem dX2_init_6 : decode cX2_init 6 = .ok (.newarray .long, 2) := by decide +kernel
theorem m_261 : (Cond.lays "NoonValley$Chance" "NoonValley$Chance" "now" "[J") ∈ BW := bw (tb2 21 (by decide +kernel)) (by decide +kernel)
theorem m_263 : (Cond.lays "NoonValley$Chance" "NoonValley$Chance" "next" "[J") ∈ BW := bw (tb2 23 (by decide +kernel)) (by decide +kernel)
theorem ciX2 : CI 2 RX2 TX2 2 tyX2 := ⟨rfl, fun w hw => by
  obtain ⟨k, hk, rfl⟩ := List.mem_map.mp hw
  have hk := List.mem_range.mp hk
  match k, hk with
  | 0, _ => exact m_261
  | 1, _ => exact m_263
  | k + 2, h => exact absurd h (by omega), tyX2_ok, nmX2⟩
theorem m_259 : (Cond.fieldLink "NoonValley$Chance" 11 "NoonValley$Chance" "now" "[J") ∈ BW := bw (tb2 19 (by decide +kernel)) (by decide +kernel)
theorem dX2_init_8 : decode cX2_init 8 = .ok (.putfield 11, 3) := by decide +kernel
theorem dX2_init_11 : decode cX2_init 11 = .ok (.aload_n 0, 1) := by decide +kernel
theorem dX2_init_12 : decode cX2_init 12 = .ok (.iconst 5, 1) := by decide +kernel
theorem dX2_init_13 : decode cX2_init 13 = .ok (.newarray .long, 2) := by decide +kernel
theorem m_260 : (Cond.fieldLink "NoonValley$Chance" 15 "NoonValley$Chance" "next" "[J") ∈ BW := bw (tb2 20 (by decide +kernel)) (by decide +kernel)
theorem dX2_init_15 : decode cX2_init 15 = .ok (.putfield 15, 3) := by decide +kernel
theorem dX2_init_18 : decode cX2_init 18 = .ok (.return_, 1) := by decide +kernel
theorem m_270 : (Cond.code yX10_init prog_12_method_1_code 1 (Option.none : Option Jvm.ClassFile.FieldType)) ∈ BW := bw (tb2 30 (by decide +kernel)) (by decide +kernel)
theorem dX10_init_0 : decode cX10_init 0 = .ok (.aload_n 0, 1) := by decide +kernel
theorem m_271 : (Cond.methodLink "NoonValley$Valley" 3 objectInit) ∈ BW := bw (tb2 31 (by decide +kernel)) (by decide +kernel)
theorem dX10_init_1 : decode cX10_init 1 = .ok (.invokespecial 3, 3) := by decide +kernel
theorem dX10_init_4 : decode cX10_init 4 = .ok (.aload_n 0, 1) := by decide +kernel
theorem dX10_init_5 : decode cX10_init 5 = .ok (.iconst 4, 1) := by decide +kernel
theorem dX10_init_6 : decode cX10_init 6 = .ok (.newarray .int, 2) := by decide +kernel
theorem m_320 : (Cond.lays "NoonValley$Valley" "NoonValley$Valley" "people" "I") ∈ BW := bw (tb2 80 (by decide +kernel)) (by decide +kernel)
theorem m_322 : (Cond.lays "NoonValley$Valley" "NoonValley$Valley" "lineCount" "I") ∈ BW := bw (tb2 82 (by decide +kernel)) (by decide +kernel)
theorem m_324 : (Cond.lays "NoonValley$Valley" "NoonValley$Valley" "deaf" "I") ∈ BW := bw (tb2 84 (by decide +kernel)) (by decide +kernel)
theorem m_326 : (Cond.laysFinal "NoonValley$Valley" "NoonValley$Valley" "knows" "[I") ∈ BW := bw (tb2 86 (by decide +kernel)) (by decide +kernel)
theorem m_328 : (Cond.laysFinal "NoonValley$Valley" "NoonValley$Valley" "must" "[I") ∈ BW := bw (tb2 88 (by decide +kernel)) (by decide +kernel)
theorem m_330 : (Cond.laysFinal "NoonValley$Valley" "NoonValley$Valley" "mustNot" "[I") ∈ BW := bw (tb2 90 (by decide +kernel)) (by decide +kernel)
theorem m_332 : (Cond.laysFinal "NoonValley$Valley" "NoonValley$Valley" "firstNews" "[I") ∈ BW := bw (tb2 92 (by decide +kernel)) (by decide +kernel)
theorem m_334 : (Cond.laysFinal "NoonValley$Valley" "NoonValley$Valley" "mustNews" "[I") ∈ BW := bw (tb2 94 (by decide +kernel)) (by decide +kernel)
theorem m_336 : (Cond.laysFinal "NoonValley$Valley" "NoonValley$Valley" "mustNotNews" "[I") ∈ BW := bw (tb2 96 (by decide +kernel)) (by decide +kernel)
theorem m_338 : (Cond.laysFinal "NoonValley$Valley" "NoonValley$Valley" "lines" "[I") ∈ BW := bw (tb2 98 (by decide +kernel)) (by decide +kernel)
theorem m_340 : (Cond.laysFinal "NoonValley$Valley" "NoonValley$Valley" "callable" "[I") ∈ BW := bw (tb2 100 (by decide +kernel)) (by decide +kernel)
theorem m_342 : (Cond.laysFinal "NoonValley$Valley" "NoonValley$Valley" "cards" "[I") ∈ BW := bw (tb2 102 (by decide +kernel)) (by decide +kernel)
theorem m_344 : (Cond.laysFinal "NoonValley$Valley" "NoonValley$Valley" "cardLength" "[I") ∈ BW := bw (tb2 104 (by decide +kernel)) (by decide +kernel)
theorem m_346 : (Cond.laysFinal "NoonValley$Valley" "NoonValley$Valley" "tales" "[I") ∈ BW := bw (tb2 106 (by decide +kernel)) (by decide +kernel)
theorem m_348 : (Cond.lays "NoonValley$Valley" "NoonValley$Valley" "gossipLength" "I") ∈ BW := bw (tb2 108 (by decide +kernel)) (by decide +kernel)
theorem m_350 : (Cond.laysFinal "NoonValley$Valley" "NoonValley$Valley" "gossipLines" "[I") ∈ BW := bw (tb2 110 (by decide +kernel)) (by decide +kernel)
theorem ciX10 : CI 10 RX10 TX10 16 tyX10 := ⟨rfl, fun w hw => by
  obtain ⟨k, hk, rfl⟩ := List.mem_map.mp hw
  have hk := List.mem_range.mp hk
  match k, hk with
  | 0, _ => exact m_320
  | 1, _ => exact m_322
  | 2, _ => exact m_324
  | 3, _ => exact m_326
  | 4, _ => exact m_328
  | 5, _ => exact m_330
  | 6, _ => exact m_332
  | 7, _ => exact m_334
  | 8, _ => exact m_336
  | 9, _ => exact m_338
  | 10, _ => exact m_340
  | 11, _ => exact m_342
  | 12, _ => exact m_344
  | 13, _ => exact m_346
  | 14, _ => exact m_348
  | 15, _ => exact m_350
  | k + 16, h => exact absurd h (by omega), tyX10_ok, nmX10⟩
theorem m_291 : (Cond.fieldLink "NoonValley$Valley" 9 "NoonValley$Valley" "knows" "[I") ∈ BW := bw (tb2 51 (by decide +kernel)) (by decide +kernel)
theorem dX10_init_8 : decode cX10_init 8 = .ok (.putfield 9, 3) := by decide +kernel
theorem dX10_init_11 : decode cX10_init 11 = .ok (.aload_n 0, 1) := by decide +kernel
theorem dX10_init_12 : decode cX10_init 12 = .ok (.iconst 4, 1) := by decide +kernel
theorem dX10_init_13 : decode cX10_init 13 = .ok (.newarray .int, 2) := by decide +kernel
theorem m_296 : (Cond.fieldLink "NoonValley$Valley" 15 "NoonValley$Valley" "must" "[I") ∈ BW := bw (tb2 56 (by decide +kernel)) (by decide +kernel)
theorem dX10_init_15 : decode cX10_init 15 = .ok (.putfield 15, 3) := by decide +kernel
theorem dX10_init_18 : decode cX10_init 18 = .ok (.aload_n 0, 1) := by decide +kernel
theorem dX10_init_19 : decode cX10_init 19 = .ok (.iconst 4, 1) := by decide +kernel
theorem dX10_init_20 : decode cX10_init 20 = .ok (.newarray .int, 2) := by decide +kernel
theorem m_300 : (Cond.fieldLink "NoonValley$Valley" 18 "NoonValley$Valley" "mustNot" "[I") ∈ BW := bw (tb2 60 (by decide +kernel)) (by decide +kernel)
theorem dX10_init_22 : decode cX10_init 22 = .ok (.putfield 18, 3) := by decide +kernel
theorem dX10_init_25 : decode cX10_init 25 = .ok (.aload_n 0, 1) := by decide +kernel
theorem dX10_init_26 : decode cX10_init 26 = .ok (.bipush 7, 2) := by decide +kernel
theorem dX10_init_28 : decode cX10_init 28 = .ok (.newarray .int, 2) := by decide +kernel
theorem m_304 : (Cond.fieldLink "NoonValley$Valley" 21 "NoonValley$Valley" "firstNews" "[I") ∈ BW := bw (tb2 64 (by decide +kernel)) (by decide +kernel)
theorem dX10_init_30 : decode cX10_init 30 = .ok (.putfield 21, 3) := by decide +kernel
theorem dX10_init_33 : decode cX10_init 33 = .ok (.aload_n 0, 1) := by decide +kernel
theorem dX10_init_34 : decode cX10_init 34 = .ok (.bipush 7, 2) := by decide +kernel
theorem dX10_init_36 : decode cX10_init 36 = .ok (.newarray .int, 2) := by decide +kernel
theorem m_306 : (Cond.fieldLink "NoonValley$Valley" 24 "NoonValley$Valley" "mustNews" "[I") ∈ BW := bw (tb2 66 (by decide +kernel)) (by decide +kernel)
theorem dX10_init_38 : decode cX10_init 38 = .ok (.putfield 24, 3) := by decide +kernel
theorem dX10_init_41 : decode cX10_init 41 = .ok (.aload_n 0, 1) := by decide +kernel
theorem dX10_init_42 : decode cX10_init 42 = .ok (.bipush 7, 2) := by decide +kernel
theorem dX10_init_44 : decode cX10_init 44 = .ok (.newarray .int, 2) := by decide +kernel
theorem m_308 : (Cond.fieldLink "NoonValley$Valley" 27 "NoonValley$Valley" "mustNotNews" "[I") ∈ BW := bw (tb2 68 (by decide +kernel)) (by decide +kernel)
theorem dX10_init_46 : decode cX10_init 46 = .ok (.putfield 27, 3) := by decide +kernel
theorem dX10_init_49 : decode cX10_init 49 = .ok (.aload_n 0, 1) := by decide +kernel
theorem dX10_init_50 : decode cX10_init 50 = .ok (.bipush 72, 2) := by decide +kernel
theorem dX10_init_52 : decode cX10_init 52 = .ok (.newarray .int, 2) := by decide +kernel
theorem m_310 : (Cond.fieldLink "NoonValley$Valley" 30 "NoonValley$Valley" "lines" "[I") ∈ BW := bw (tb2 70 (by decide +kernel)) (by decide +kernel)
theorem dX10_init_54 : decode cX10_init 54 = .ok (.putfield 30, 3) := by decide +kernel
theorem dX10_init_57 : decode cX10_init 57 = .ok (.aload_n 0, 1) := by decide +kernel
theorem dX10_init_58 : decode cX10_init 58 = .ok (.sipush 175, 3) := by decide +kernel
theorem dX10_init_61 : decode cX10_init 61 = .ok (.newarray .int, 2) := by decide +kernel
theorem m_311 : (Cond.fieldLink "NoonValley$Valley" 33 "NoonValley$Valley" "callable" "[I") ∈ BW := bw (tb2 71 (by decide +kernel)) (by decide +kernel)
theorem dX10_init_63 : decode cX10_init 63 = .ok (.putfield 33, 3) := by decide +kernel
theorem dX10_init_66 : decode cX10_init 66 = .ok (.aload_n 0, 1) := by decide +kernel
theorem dX10_init_67 : decode cX10_init 67 = .ok (.bipush 42, 2) := by decide +kernel
theorem dX10_init_69 : decode cX10_init 69 = .ok (.newarray .int, 2) := by decide +kernel
theorem m_312 : (Cond.fieldLink "NoonValley$Valley" 36 "NoonValley$Valley" "cards" "[I") ∈ BW := bw (tb2 72 (by decide +kernel)) (by decide +kernel)
theorem dX10_init_71 : decode cX10_init 71 = .ok (.putfield 36, 3) := by decide +kernel
theorem dX10_init_74 : decode cX10_init 74 = .ok (.aload_n 0, 1) := by decide +kernel
theorem dX10_init_75 : decode cX10_init 75 = .ok (.bipush 7, 2) := by decide +kernel
theorem dX10_init_77 : decode cX10_init 77 = .ok (.newarray .int, 2) := by decide +kernel
theorem m_313 : (Cond.fieldLink "NoonValley$Valley" 39 "NoonValley$Valley" "cardLength" "[I") ∈ BW := bw (tb2 73 (by decide +kernel)) (by decide +kernel)
theorem dX10_init_79 : decode cX10_init 79 = .ok (.putfield 39, 3) := by decide +kernel
theorem dX10_init_82 : decode cX10_init 82 = .ok (.aload_n 0, 1) := by decide +kernel
theorem dX10_init_83 : decode cX10_init 83 = .ok (.bipush 28, 2) := by decide +kernel
theorem dX10_init_85 : decode cX10_init 85 = .ok (.newarray .int, 2) := by decide +kernel
theorem m_314 : (Cond.fieldLink "NoonValley$Valley" 42 "NoonValley$Valley" "tales" "[I") ∈ BW := bw (tb2 74 (by decide +kernel)) (by decide +kernel)
theorem dX10_init_87 : decode cX10_init 87 = .ok (.putfield 42, 3) := by decide +kernel
theorem dX10_init_90 : decode cX10_init 90 = .ok (.aload_n 0, 1) := by decide +kernel
theorem dX10_init_91 : decode cX10_init 91 = .ok (.bipush (-2), 2) := by decide +kernel
theorem m_315 : (Cond.fieldLink "NoonValley$Valley" 45 "NoonValley$Valley" "gossipLength" "I") ∈ BW := bw (tb2 75 (by decide +kernel)) (by decide +kernel)
theorem dX10_init_93 : decode cX10_init 93 = .ok (.putfield 45, 3) := by decide +kernel
theorem dX10_init_96 : decode cX10_init 96 = .ok (.aload_n 0, 1) := by decide +kernel
theorem dX10_init_97 : decode cX10_init 97 = .ok (.bipush 7, 2) := by decide +kernel
theorem dX10_init_99 : decode cX10_init 99 = .ok (.newarray .int, 2) := by decide +kernel
theorem m_317 : (Cond.fieldLink "NoonValley$Valley" 51 "NoonValley$Valley" "gossipLines" "[I") ∈ BW := bw (tb2 77 (by decide +kernel)) (by decide +kernel)
theorem dX10_init_101 : decode cX10_init 101 = .ok (.putfield 51, 3) := by decide +kernel
theorem dX10_init_104 : decode cX10_init 104 = .ok (.return_, 1) := by decide +kernel
set_option maxHeartbeats 4000000 in
set_option maxRecDepth 100000 in
theorem C_X8_init (l : Launch) (g : GG) (h0 : Nat) : MetV l g yX8_init cX8_init 1 none 1 1 400 [.ref h0] [(h0, .inr (8, [.null, .int 0, .int 0]))] (fun u => ∃ q1 : Nat, u = [(h0, .inr (8, [.ref q1, .int 0, .int 0]))]) := by
  refine MetV.of (own := RX8) rfl (by decide) (Nat.le_of_ble_eq_true rfl) ?_
  intro p e s m below meth c A ls args Q hQ X hr hin hW hl
  have hx := X.1
  have hb := X.2.1
  have hl : lv_has ls 1 [(0, .ref h0)] := hl
  refine lv_aload_n (pc := 0) hx hb dX8_init_0 rfl (lv_at hl 0 rfl) ?_
  refine W.objInit hx hb X.2.2.2.1 (X.2.2.2.2.1 _ m_35) (X.2.2.2.2.1 _ m_28) (X.2.2.2.2.1 _ m_29) rfl (by rw [X.2.2.1]; exact hl.1) rfl dX8_init_1 (Nat.le_of_ble_eq_true rfl) (Nat.le_of_ble_eq_true rfl) ?_
  refine W.eq (g2 := F0 m 4 ls []) rfl ?_
  refine lv_aload_n (pc := 4) hx hb dX8_init_4 rfl (lv_at hl 0 rfl) ?_
  refine lv_sipush (v := 400) (pc := 5) hx hb dX8_init_5 (by decide) ?_
  refine r_newa (a0 := (400, .inl (fun _ => 0))) X hW .int rfl m_47 1 rfl (by intro C h; cases h) (fun _ => rfl) (by decide) (by decide) (Nat.le_of_ble_eq_true rfl) ⟨Nat.le_of_ble_eq_true rfl, Nat.le_of_ble_eq_true rfl⟩ dX8_init_8 (fun q1 H hW => ?_)
  have hW : WD g A s _ _ [(h0, .inr (8, [.null, .int 0, .int 0]))] := hW.pick [0] rfl rfl
  refine r_putF (ws' := [(h0, .inr (8, [.ref q1, .int 0, .int 0]))]) X hin hW 0 ciX8 0 rfl (by decide) m_36 rfl rfl rfl rfl rfl (Nat.le_of_ble_eq_true rfl) rfl dX8_init_10 (fun H locs hW => ?_)
  exact e_v X hQ hr hW (u := [(h0, .inr (8, [.ref q1, .int 0, .int 0]))]) [0] rfl rfl (⟨q1, rfl⟩) ⟨Nat.le_of_ble_eq_true rfl, Nat.le_of_ble_eq_true rfl⟩ dX8_init_13

set_option maxHeartbeats 4000000 in
set_option maxRecDepth 100000 in
theorem C_X1_init (l : Launch) (g : GG) (h0 : Nat) : MetV l g yX1_init cX1_init 1 none 1 2 14 [.ref h0] [(h0, .inr (1, [.null, .null, .int 0, .long 0, .long 0]))] (fun u => u = []) := by
  refine MetV.of (own := RX1) rfl (by decide) (Nat.le_of_ble_eq_true rfl) ?_
  intro p e s m below meth c A ls args Q hQ X hr hin hW hl
  have hx := X.1
  have hb := X.2.1
  have hl : lv_has ls 1 [(0, .ref h0)] := hl
  refine lv_aload_n (pc := 0) hx hb dX1_init_0 rfl (lv_at hl 0 rfl) ?_
  refine W.objInit hx hb X.2.2.2.1 (X.2.2.2.2.1 _ m_57) (X.2.2.2.2.1 _ m_28) (X.2.2.2.2.1 _ m_29) rfl (by rw [X.2.2.1]; exact hl.1) rfl dX1_init_1 (Nat.le_of_ble_eq_true rfl) (Nat.le_of_ble_eq_true rfl) ?_
  refine W.eq (g2 := F0 m 4 ls []) rfl ?_
  refine lv_aload_n (pc := 4) hx hb dX1_init_4 rfl (lv_at hl 0 rfl) ?_
  refine lv_bipush (v := 7) (pc := 5) hx hb dX1_init_5 (by decide) ?_
  refine r_newa (a0 := (7, .inl (fun _ => 0))) X hW .int rfl m_47 1 rfl (by intro C h; cases h) (fun _ => rfl) (by decide) (by decide) (Nat.le_of_ble_eq_true rfl) ⟨Nat.le_of_ble_eq_true rfl, Nat.le_of_ble_eq_true rfl⟩ dX1_init_7 (fun q1 H hW => ?_)
  have hW : WD g A s _ _ [(h0, .inr (1, [.null, .null, .int 0, .long 0, .long 0]))] := hW.pick [0] rfl rfl
  refine r_putF (ws' := [(h0, .inr (1, [.ref q1, .null, .int 0, .long 0, .long 0]))]) X hin hW 0 ciX1 0 rfl (by decide) m_58 rfl rfl rfl rfl rfl (Nat.le_of_ble_eq_true rfl) rfl dX1_init_9 (fun H locs hW => ?_)
  refine lv_aload_n (pc := 12) hx hb dX1_init_12 rfl (lv_at hl 0 rfl) ?_
  refine lv_bipush (v := 7) (pc := 13) hx hb dX1_init_13 (by decide) ?_
  refine r_newa (a0 := (7, .inl (fun _ => 0))) X hW .int rfl m_47 1 rfl (by intro C h; cases h) (fun _ => rfl) (by decide) (by decide) (Nat.le_of_ble_eq_true rfl) ⟨Nat.le_of_ble_eq_true rfl, Nat.le_of_ble_eq_true rfl⟩ dX1_init_15 (fun q2 H hW => ?_)
  have hW : WD g A s _ _ [(h0, .inr (1, [.ref q1, .null, .int 0, .long 0, .long 0]))] := hW.pick [0] rfl rfl
  refine r_putF (ws' := [(h0, .inr (1, [.ref q1, .ref q2, .int 0, .long 0, .long 0]))]) X hin hW 0 ciX1 1 rfl (by decide) m_60 rfl rfl rfl rfl rfl (Nat.le_of_ble_eq_true rfl) rfl dX1_init_17 (fun H locs hW => ?_)
  exact e_v X hQ hr hW (u := []) [] rfl rfl (rfl) ⟨Nat.le_of_ble_eq_true rfl, Nat.le_of_ble_eq_true rfl⟩ dX1_init_20

set_option maxHeartbeats 4000000 in
set_option maxRecDepth 100000 in
theorem C_X5_init (l : Launch) (g : GG) (h0 : Nat) : MetV l g yX5_init cX5_init 1 none 1 4 391 [.ref h0] [(h0, .inr (5, [.null, .null, .null, .int 0, .null, .int 0]))] (fun u => u = []) := by
  refine MetV.of (own := RX5) rfl (by decide) (Nat.le_of_ble_eq_true rfl) ?_
  intro p e s m below meth c A ls args Q hQ X hr hin hW hl
  have hx := X.1
  have hb := X.2.1
  have hl : lv_has ls 1 [(0, .ref h0)] := hl
  refine lv_aload_n (pc := 0) hx hb dX5_init_0 rfl (lv_at hl 0 rfl) ?_
  refine W.objInit hx hb X.2.2.2.1 (X.2.2.2.2.1 _ m_86) (X.2.2.2.2.1 _ m_28) (X.2.2.2.2.1 _ m_29) rfl (by rw [X.2.2.1]; exact hl.1) rfl dX5_init_1 (Nat.le_of_ble_eq_true rfl) (Nat.le_of_ble_eq_true rfl) ?_
  refine W.eq (g2 := F0 m 4 ls []) rfl ?_
  refine lv_aload_n (pc := 4) hx hb dX5_init_4 rfl (lv_at hl 0 rfl) ?_
  refine lv_sipush (v := 128) (pc := 5) hx hb dX5_init_5 (by decide) ?_
  refine r_newa (a0 := (128, .inl (fun _ => 0))) X hW .int rfl m_47 1 rfl (by intro C h; cases h) (fun _ => rfl) (by decide) (by decide) (Nat.le_of_ble_eq_true rfl) ⟨Nat.le_of_ble_eq_true rfl, Nat.le_of_ble_eq_true rfl⟩ dX5_init_8 (fun q1 H hW => ?_)
  have hW : WD g A s _ _ [(h0, .inr (5, [.null, .null, .null, .int 0, .null, .int 0]))] := hW.pick [0] rfl rfl
  refine r_putF (ws' := [(h0, .inr (5, [.ref q1, .null, .null, .int 0, .null, .int 0]))]) X hin hW 0 ciX5 0 rfl (by decide) m_87 rfl rfl rfl rfl rfl (Nat.le_of_ble_eq_true rfl) rfl dX5_init_10 (fun H locs hW => ?_)
  refine lv_aload_n (pc := 13) hx hb dX5_init_13 rfl (lv_at hl 0 rfl) ?_
  refine lv_sipush (v := 128) (pc := 14) hx hb dX5_init_14 (by decide) ?_
  refine r_newa (a0 := (128, .inl (fun _ => 0))) X hW .int rfl m_47 1 rfl (by intro C h; cases h) (fun _ => rfl) (by decide) (by decide) (Nat.le_of_ble_eq_true rfl) ⟨Nat.le_of_ble_eq_true rfl, Nat.le_of_ble_eq_true rfl⟩ dX5_init_17 (fun q2 H hW => ?_)
  have hW : WD g A s _ _ [(h0, .inr (5, [.ref q1, .null, .null, .int 0, .null, .int 0]))] := hW.pick [0] rfl rfl
  refine r_putF (ws' := [(h0, .inr (5, [.ref q1, .ref q2, .null, .int 0, .null, .int 0]))]) X hin hW 0 ciX5 1 rfl (by decide) m_89 rfl rfl rfl rfl rfl (Nat.le_of_ble_eq_true rfl) rfl dX5_init_19 (fun H locs hW => ?_)
  refine lv_aload_n (pc := 22) hx hb dX5_init_22 rfl (lv_at hl 0 rfl) ?_
  refine lv_sipush (v := 128) (pc := 23) hx hb dX5_init_23 (by decide) ?_
  refine r_newa (a0 := (128, .inl (fun _ => 0))) X hW .boolean rfl m_109 3 rfl (by intro C h; cases h) (fun _ => rfl) (by decide) (by decide) (Nat.le_of_ble_eq_true rfl) ⟨Nat.le_of_ble_eq_true rfl, Nat.le_of_ble_eq_true rfl⟩ dX5_init_26 (fun q3 H hW => ?_)
  have hW : WD g A s _ _ [(h0, .inr (5, [.ref q1, .ref q2, .null, .int 0, .null, .int 0]))] := hW.pick [0] rfl rfl
  refine r_putF (ws' := [(h0, .inr (5, [.ref q1, .ref q2, .ref q3, .int 0, .null, .int 0]))]) X hin hW 0 ciX5 2 rfl (by decide) m_91 rfl rfl rfl rfl rfl (Nat.le_of_ble_eq_true rfl) rfl dX5_init_28 (fun H locs hW => ?_)
  refine lv_aload_n (pc := 31) hx hb dX5_init_31 rfl (lv_at hl 0 rfl) ?_
  refine lv_bipush (v := 7) (pc := 32) hx hb dX5_init_32 (by decide) ?_
  refine r_newa (a0 := (7, .inl (fun _ => 0))) X hW .int rfl m_47 1 rfl (by intro C h; cases h) (fun _ => rfl) (by decide) (by decide) (Nat.le_of_ble_eq_true rfl) ⟨Nat.le_of_ble_eq_true rfl, Nat.le_of_ble_eq_true rfl⟩ dX5_init_34 (fun q4 H hW => ?_)
  have hW : WD g A s _ _ [(h0, .inr (5, [.ref q1, .ref q2, .ref q3, .int 0, .null, .int 0]))] := hW.pick [0] rfl rfl
  refine r_putF (ws' := [(h0, .inr (5, [.ref q1, .ref q2, .ref q3, .int 0, .ref q4, .int 0]))]) X hin hW 0 ciX5 4 rfl (by decide) m_94 rfl rfl rfl rfl rfl (Nat.le_of_ble_eq_true rfl) rfl dX5_init_36 (fun H locs hW => ?_)
  exact e_v X hQ hr hW (u := []) [] rfl rfl (rfl) ⟨Nat.le_of_ble_eq_true rfl, Nat.le_of_ble_eq_true rfl⟩ dX5_init_39

set_option maxHeartbeats 4000000 in
set_option maxRecDepth 100000 in
theorem C_X6_init (l : Launch) (g : GG) (h0 : Nat) : MetV l g yX6_init cX6_init 1 none 1 0 0 [.ref h0] [(h0, .inr (6, [.null, .int 0, .int 0, .int 0, .int 0]))] (fun u => u = []) := by
  refine MetV.of (own := RX6) rfl (by decide) (Nat.le_of_ble_eq_true rfl) ?_
  intro p e s m below meth c A ls args Q hQ X hr hin hW hl
  have hx := X.1
  have hb := X.2.1
  have hl : lv_has ls 1 [(0, .ref h0)] := hl
  refine lv_aload_n (pc := 0) hx hb dX6_init_0 rfl (lv_at hl 0 rfl) ?_
  refine W.objInit hx hb X.2.2.2.1 (X.2.2.2.2.1 _ m_173) (X.2.2.2.2.1 _ m_28) (X.2.2.2.2.1 _ m_29) rfl (by rw [X.2.2.1]; exact hl.1) rfl dX6_init_1 (Nat.le_of_ble_eq_true rfl) (Nat.le_of_ble_eq_true rfl) ?_
  refine W.eq (g2 := F0 m 4 ls []) rfl ?_
  exact e_v X hQ hr hW (u := []) [] rfl rfl (rfl) ⟨Nat.le_of_ble_eq_true rfl, Nat.le_of_ble_eq_true rfl⟩ dX6_init_4

set_option maxHeartbeats 4000000 in
set_option maxRecDepth 100000 in
theorem C_X3_init (l : Launch) (g : GG) (h0 : Nat) : MetV l g yX3_init cX3_init 1 none 1 1 5 [.ref h0] [(h0, .inr (3, [.null, .int 0, .null]))] (fun u => u = []) := by
  refine MetV.of (own := RX3) rfl (by decide) (Nat.le_of_ble_eq_true rfl) ?_
  intro p e s m below meth c A ls args Q hQ X hr hin hW hl
  have hx := X.1
  have hb := X.2.1
  have hl : lv_has ls 1 [(0, .ref h0)] := hl
  refine lv_aload_n (pc := 0) hx hb dX3_init_0 rfl (lv_at hl 0 rfl) ?_
  refine W.objInit hx hb X.2.2.2.1 (X.2.2.2.2.1 _ m_195) (X.2.2.2.2.1 _ m_28) (X.2.2.2.2.1 _ m_29) rfl (by rw [X.2.2.1]; exact hl.1) rfl dX3_init_1 (Nat.le_of_ble_eq_true rfl) (Nat.le_of_ble_eq_true rfl) ?_
  refine W.eq (g2 := F0 m 4 ls []) rfl ?_
  refine lv_aload_n (pc := 4) hx hb dX3_init_4 rfl (lv_at hl 0 rfl) ?_
  refine lv_iconst (v := 5) (pc := 5) hx hb dX3_init_5 (by decide) ?_
  refine r_newa (a0 := (5, .inl (fun _ => 0))) X hW .int rfl m_47 1 rfl (by intro C h; cases h) (fun _ => rfl) (by decide) (by decide) (Nat.le_of_ble_eq_true rfl) ⟨Nat.le_of_ble_eq_true rfl, Nat.le_of_ble_eq_true rfl⟩ dX3_init_6 (fun q1 H hW => ?_)
  have hW : WD g A s _ _ [(h0, .inr (3, [.null, .int 0, .null]))] := hW.pick [0] rfl rfl
  refine r_putF (ws' := [(h0, .inr (3, [.null, .int 0, .ref q1]))]) X hin hW 0 ciX3 2 rfl (by decide) m_198 rfl rfl rfl rfl rfl (Nat.le_of_ble_eq_true rfl) rfl dX3_init_8 (fun H locs hW => ?_)
  exact e_v X hQ hr hW (u := []) [] rfl rfl (rfl) ⟨Nat.le_of_ble_eq_true rfl, Nat.le_of_ble_eq_true rfl⟩ dX3_init_11

set_option maxHeartbeats 4000000 in
set_option maxRecDepth 100000 in
theorem C_X9_init (l : Launch) (g : GG) (h0 : Nat) : MetV l g yX9_init cX9_init 1 none 1 3 8198 [.ref h0] [(h0, .inr (9, [.null, .null, .null]))] (fun u => u = []) := by
  refine MetV.of (own := RX9) rfl (by decide) (Nat.le_of_ble_eq_true rfl) ?_
  intro p e s m below meth c A ls args Q hQ X hr hin hW hl
  have hx := X.1
  have hb := X.2.1
  have hl : lv_has ls 1 [(0, .ref h0)] := hl
  refine lv_aload_n (pc := 0) hx hb dX9_init_0 rfl (lv_at hl 0 rfl) ?_
  refine W.objInit hx hb X.2.2.2.1 (X.2.2.2.2.1 _ m_211) (X.2.2.2.2.1 _ m_28) (X.2.2.2.2.1 _ m_29) rfl (by rw [X.2.2.1]; exact hl.1) rfl dX9_init_1 (Nat.le_of_ble_eq_true rfl) (Nat.le_of_ble_eq_true rfl) ?_
  refine W.eq (g2 := F0 m 4 ls []) rfl ?_
  refine lv_aload_n (pc := 4) hx hb dX9_init_4 rfl (lv_at hl 0 rfl) ?_
  refine lv_sipush (v := 4096) (pc := 5) hx hb dX9_init_5 (by decide) ?_
  refine r_newa (a0 := (4096, .inl (fun _ => 0))) X hW .int rfl m_47 1 rfl (by intro C h; cases h) (fun _ => rfl) (by decide) (by decide) (Nat.le_of_ble_eq_true rfl) ⟨Nat.le_of_ble_eq_true rfl, Nat.le_of_ble_eq_true rfl⟩ dX9_init_8 (fun q1 H hW => ?_)
  have hW : WD g A s _ _ [(h0, .inr (9, [.null, .null, .null]))] := hW.pick [0] rfl rfl
  refine r_put (ws' := [(h0, .inr (9, [.ref q1, .null, .null]))]) X hW 0 ciX9 0 rfl (by decide) m_214 rfl rfl rfl rfl (Nat.le_of_ble_eq_true rfl) rfl dX9_init_10 (fun H locs hW => ?_)
  refine lv_aload_n (pc := 13) hx hb dX9_init_13 rfl (lv_at hl 0 rfl) ?_
  refine lv_sipush (v := 4096) (pc := 14) hx hb dX9_init_14 (by decide) ?_
  refine r_newa (a0 := (4096, .inl (fun _ => 0))) X hW .int rfl m_47 1 rfl (by intro C h; cases h) (fun _ => rfl) (by decide) (by decide) (Nat.le_of_ble_eq_true rfl) ⟨Nat.le_of_ble_eq_true rfl, Nat.le_of_ble_eq_true rfl⟩ dX9_init_17 (fun q2 H hW => ?_)
  have hW : WD g A s _ _ [(h0, .inr (9, [.ref q1, .null, .null]))] := hW.pick [0] rfl rfl
  refine r_put (ws' := [(h0, .inr (9, [.ref q1, .ref q2, .null]))]) X hW 0 ciX9 1 rfl (by decide) m_215 rfl rfl rfl rfl (Nat.le_of_ble_eq_true rfl) rfl dX9_init_19 (fun H locs hW => ?_)
  refine lv_aload_n (pc := 22) hx hb dX9_init_22 rfl (lv_at hl 0 rfl) ?_
  refine va_gets (pc := 23) hx hb X.2.2.2.2.2.2.1.1.1 hW.2.2 X.2.2.2.1 (X.2.2.2.2.1 _ m_212) (fun _ h9 => h9) dX9_init_23 ?_
  refine va_tlen (pc := 26) (v := 6) hx hb X.2.2.2.2.2.2.1.1.2 hW.2.2 rfl dX9_init_26 ?_
  refine r_newa (a0 := (6, .inl (fun _ => 0))) X hW .boolean rfl m_109 3 rfl (by intro C h; cases h) (fun _ => rfl) (by decide) (by decide) (Nat.le_of_ble_eq_true rfl) ⟨Nat.le_of_ble_eq_true rfl, Nat.le_of_ble_eq_true rfl⟩ dX9_init_27 (fun q3 H hW => ?_)
  have hW : WD g A s _ _ [(h0, .inr (9, [.ref q1, .ref q2, .null]))] := hW.pick [0] rfl rfl
  refine r_putF (ws' := [(h0, .inr (9, [.ref q1, .ref q2, .ref q3]))]) X hin hW 0 ciX9 2 rfl (by decide) m_216 rfl rfl rfl rfl rfl (Nat.le_of_ble_eq_true rfl) rfl dX9_init_29 (fun H locs hW => ?_)
  exact e_v X hQ hr hW (u := []) [] rfl rfl (rfl) ⟨Nat.le_of_ble_eq_true rfl, Nat.le_of_ble_eq_true rfl⟩ dX9_init_32

set_option maxHeartbeats 4000000 in
set_option maxRecDepth 100000 in
theorem C_X0_init (l : Launch) (g : GG) (h0 : Nat) : MetV l g yX0_init cX0_init 1 none 1 4 28 [.ref h0] [(h0, .inr (0, [.null, .int 0, .int 0, .null, .null, .null, .null]))] (fun u => u = []) := by
  refine MetV.of (own := RX0) rfl (by decide) (Nat.le_of_ble_eq_true rfl) ?_
  intro p e s m below meth c A ls args Q hQ X hr hin hW hl
  have hx := X.1
  have hb := X.2.1
  have hl : lv_has ls 1 [(0, .ref h0)] := hl
  refine lv_aload_n (pc := 0) hx hb dX0_init_0 rfl (lv_at hl 0 rfl) ?_
  refine W.objInit hx hb X.2.2.2.1 (X.2.2.2.2.1 _ m_229) (X.2.2.2.2.1 _ m_28) (X.2.2.2.2.1 _ m_29) rfl (by rw [X.2.2.1]; exact hl.1) rfl dX0_init_1 (Nat.le_of_ble_eq_true rfl) (Nat.le_of_ble_eq_true rfl) ?_
  refine W.eq (g2 := F0 m 4 ls []) rfl ?_
  refine lv_aload_n (pc := 4) hx hb dX0_init_4 rfl (lv_at hl 0 rfl) ?_
  refine lv_bipush (v := 7) (pc := 5) hx hb dX0_init_5 (by decide) ?_
  refine r_newa (a0 := (7, .inl (fun _ => 0))) X hW .int rfl m_47 1 rfl (by intro C h; cases h) (fun _ => rfl) (by decide) (by decide) (Nat.le_of_ble_eq_true rfl) ⟨Nat.le_of_ble_eq_true rfl, Nat.le_of_ble_eq_true rfl⟩ dX0_init_7 (fun q1 H hW => ?_)
  have hW : WD g A s _ _ [(h0, .inr (0, [.null, .int 0, .int 0, .null, .null, .null, .null]))] := hW.pick [0] rfl rfl
  refine r_putF (ws' := [(h0, .inr (0, [.null, .int 0, .int 0, .ref q1, .null, .null, .null]))]) X hin hW 0 ciX0 3 rfl (by decide) m_233 rfl rfl rfl rfl rfl (Nat.le_of_ble_eq_true rfl) rfl dX0_init_9 (fun H locs hW => ?_)
  refine lv_aload_n (pc := 12) hx hb dX0_init_12 rfl (lv_at hl 0 rfl) ?_
  refine lv_bipush (v := 7) (pc := 13) hx hb dX0_init_13 (by decide) ?_
  refine r_newa (a0 := (7, .inl (fun _ => 0))) X hW .int rfl m_47 1 rfl (by intro C h; cases h) (fun _ => rfl) (by decide) (by decide) (Nat.le_of_ble_eq_true rfl) ⟨Nat.le_of_ble_eq_true rfl, Nat.le_of_ble_eq_true rfl⟩ dX0_init_15 (fun q2 H hW => ?_)
  have hW : WD g A s _ _ [(h0, .inr (0, [.null, .int 0, .int 0, .ref q1, .null, .null, .null]))] := hW.pick [0] rfl rfl
  refine r_putF (ws' := [(h0, .inr (0, [.null, .int 0, .int 0, .ref q1, .ref q2, .null, .null]))]) X hin hW 0 ciX0 4 rfl (by decide) m_234 rfl rfl rfl rfl rfl (Nat.le_of_ble_eq_true rfl) rfl dX0_init_17 (fun H locs hW => ?_)
  refine lv_aload_n (pc := 20) hx hb dX0_init_20 rfl (lv_at hl 0 rfl) ?_
  refine lv_bipush (v := 7) (pc := 21) hx hb dX0_init_21 (by decide) ?_
  refine r_newa (a0 := (7, .inl (fun _ => 0))) X hW .int rfl m_47 1 rfl (by intro C h; cases h) (fun _ => rfl) (by decide) (by decide) (Nat.le_of_ble_eq_true rfl) ⟨Nat.le_of_ble_eq_true rfl, Nat.le_of_ble_eq_true rfl⟩ dX0_init_23 (fun q3 H hW => ?_)
  have hW : WD g A s _ _ [(h0, .inr (0, [.null, .int 0, .int 0, .ref q1, .ref q2, .null, .null]))] := hW.pick [0] rfl rfl
  refine r_putF (ws' := [(h0, .inr (0, [.null, .int 0, .int 0, .ref q1, .ref q2, .ref q3, .null]))]) X hin hW 0 ciX0 5 rfl (by decide) m_236 rfl rfl rfl rfl rfl (Nat.le_of_ble_eq_true rfl) rfl dX0_init_25 (fun H locs hW => ?_)
  refine lv_aload_n (pc := 28) hx hb dX0_init_28 rfl (lv_at hl 0 rfl) ?_
  refine lv_bipush (v := 7) (pc := 29) hx hb dX0_init_29 (by decide) ?_
  refine r_newa (a0 := (7, .inl (fun _ => 0))) X hW .int rfl m_47 1 rfl (by intro C h; cases h) (fun _ => rfl) (by decide) (by decide) (Nat.le_of_ble_eq_true rfl) ⟨Nat.le_of_ble_eq_true rfl, Nat.le_of_ble_eq_true rfl⟩ dX0_init_31 (fun q4 H hW => ?_)
  have hW : WD g A s _ _ [(h0, .inr (0, [.null, .int 0, .int 0, .ref q1, .ref q2, .ref q3, .null]))] := hW.pick [0] rfl rfl
  refine r_putF (ws' := [(h0, .inr (0, [.null, .int 0, .int 0, .ref q1, .ref q2, .ref q3, .ref q4]))]) X hin hW 0 ciX0 6 rfl (by decide) m_237 rfl rfl rfl rfl rfl (Nat.le_of_ble_eq_true rfl) rfl dX0_init_33 (fun H locs hW => ?_)
  exact e_v X hQ hr hW (u := []) [] rfl rfl (rfl) ⟨Nat.le_of_ble_eq_true rfl, Nat.le_of_ble_eq_true rfl⟩ dX0_init_36

set_option maxHeartbeats 4000000 in
set_option maxRecDepth 100000 in
theorem C_X2_init (l : Launch) (g : GG) (h0 : Nat) : MetV l g yX2_init cX2_init 1 none 1 2 10 [.ref h0] [(h0, .inr (2, [.null, .null]))] (fun u => ∃ q1 q2 : Nat, u = [(h0, .inr (2, [.ref q1, .ref q2])), (q1, .inl (g.2.1 2, 5, .inr (.inl (fun _ => 0)))), (q2, .inl (g.2.1 2, 5, .inr (.inl (fun _ => 0))))]) := by
  refine MetV.of (own := RX2) rfl (by decide) (Nat.le_of_ble_eq_true rfl) ?_
  intro p e s m below meth c A ls args Q hQ X hr hin hW hl
  have hx := X.1
  have hb := X.2.1
  have hl : lv_has ls 1 [(0, .ref h0)] := hl
  refine lv_aload_n (pc := 0) hx hb dX2_init_0 rfl (lv_at hl 0 rfl) ?_
  refine W.objInit hx hb X.2.2.2.1 (X.2.2.2.2.1 _ m_258) (X.2.2.2.2.1 _ m_28) (X.2.2.2.2.1 _ m_29) rfl (by rw [X.2.2.1]; exact hl.1) rfl dX2_init_1 (Nat.le_of_ble_eq_true rfl) (Nat.le_of_ble_eq_true rfl) ?_
  refine W.eq (g2 := F0 m 4 ls []) rfl ?_
  refine lv_aload_n (pc := 4) hx hb dX2_init_4 rfl (lv_at hl 0 rfl) ?_
  refine lv_iconst (v := 5) (pc := 5) hx hb dX2_init_5 (by decide) ?_
  refine r_newa (a0 := (5, .inr (.inl (fun _ => 0)))) X hW .long rfl m_266 2 rfl (by intro C h; cases h) (fun _ => rfl) (by decide) (by decide) (Nat.le_of_ble_eq_true rfl) ⟨Nat.le_of_ble_eq_true rfl, Nat.le_of_ble_eq_true rfl⟩ dX2_init_6 (fun q1 H hW => ?_)
  have hW : WD g A s _ _ [(h0, .inr (2, [.null, .null])), (q1, .inl (g.2.1 2, 5, .inr (.inl (fun _ => 0))))] := hW
  refine r_put (ws' := [(h0, .inr (2, [.ref q1, .null])), (q1, .inl (g.2.1 2, 5, .inr (.inl (fun _ => 0))))]) X hW 0 ciX2 0 rfl (by decide) m_259 rfl rfl rfl rfl (Nat.le_of_ble_eq_true rfl) rfl dX2_init_8 (fun H locs hW => ?_)
  refine lv_aload_n (pc := 11) hx hb dX2_init_11 rfl (lv_at hl 0 rfl) ?_
  refine lv_iconst (v := 5) (pc := 12) hx hb dX2_init_12 (by decide) ?_
  refine r_newa (a0 := (5, .inr (.inl (fun _ => 0)))) X hW .long rfl m_266 2 rfl (by intro C h; cases h) (fun _ => rfl) (by decide) (by decide) (Nat.le_of_ble_eq_true rfl) ⟨Nat.le_of_ble_eq_true rfl, Nat.le_of_ble_eq_true rfl⟩ dX2_init_13 (fun q2 H hW => ?_)
  have hW : WD g A s _ _ [(h0, .inr (2, [.ref q1, .null])), (q1, .inl (g.2.1 2, 5, .inr (.inl (fun _ => 0)))), (q2, .inl (g.2.1 2, 5, .inr (.inl (fun _ => 0))))] := hW
  refine r_put (ws' := [(h0, .inr (2, [.ref q1, .ref q2])), (q1, .inl (g.2.1 2, 5, .inr (.inl (fun _ => 0)))), (q2, .inl (g.2.1 2, 5, .inr (.inl (fun _ => 0))))]) X hW 0 ciX2 1 rfl (by decide) m_260 rfl rfl rfl rfl (Nat.le_of_ble_eq_true rfl) rfl dX2_init_15 (fun H locs hW => ?_)
  exact e_v X hQ hr hW (u := [(h0, .inr (2, [.ref q1, .ref q2])), (q1, .inl (g.2.1 2, 5, .inr (.inl (fun _ => 0)))), (q2, .inl (g.2.1 2, 5, .inr (.inl (fun _ => 0))))]) [0, 1, 2] rfl rfl (⟨q1, q2, rfl⟩) ⟨Nat.le_of_ble_eq_true rfl, Nat.le_of_ble_eq_true rfl⟩ dX2_init_18

set_option maxHeartbeats 4000000 in
set_option maxRecDepth 100000 in
theorem C_X10_init (l : Launch) (g : GG) (h0 : Nat) : MetV l g yX10_init cX10_init 1 none 1 12 364 [.ref h0] [(h0, .inr (10, [.int 0, .int 0, .int 0, .null, .null, .null, .null, .null, .null, .null, .null, .null, .null, .null, .int 0, .null]))] (fun u => ∃ q1 q2 q3 q4 q5 q6 q7 q8 q9 q10 q11 q12 : Nat, u = [(h0, .inr (10, [.int 0, .int 0, .int 0, .ref q1, .ref q2, .ref q3, .ref q4, .ref q5, .ref q6, .ref q7, .ref q8, .ref q9, .ref q10, .ref q11, .int (-2), .ref q12])), (q1, .inl (g.2.1 1, 4, .inl (fun _ => 0))), (q2, .inl (g.2.1 1, 4, .inl (fun _ => 0))), (q3, .inl (g.2.1 1, 4, .inl (fun _ => 0)))]) := by
  refine MetV.of (own := RX10) rfl (by decide) (Nat.le_of_ble_eq_true rfl) ?_
  intro p e s m below meth c A ls args Q hQ X hr hin hW hl
  have hx := X.1
  have hb := X.2.1
  have hl : lv_has ls 1 [(0, .ref h0)] := hl
  refine lv_aload_n (pc := 0) hx hb dX10_init_0 rfl (lv_at hl 0 rfl) ?_
  refine W.objInit hx hb X.2.2.2.1 (X.2.2.2.2.1 _ m_271) (X.2.2.2.2.1 _ m_28) (X.2.2.2.2.1 _ m_29) rfl (by rw [X.2.2.1]; exact hl.1) rfl dX10_init_1 (Nat.le_of_ble_eq_true rfl) (Nat.le_of_ble_eq_true rfl) ?_
  refine W.eq (g2 := F0 m 4 ls []) rfl ?_
  refine lv_aload_n (pc := 4) hx hb dX10_init_4 rfl (lv_at hl 0 rfl) ?_
  refine lv_iconst (v := 4) (pc := 5) hx hb dX10_init_5 (by decide) ?_
  refine r_newa (a0 := (4, .inl (fun _ => 0))) X hW .int rfl m_47 1 rfl (by intro C h; cases h) (fun _ => rfl) (by decide) (by decide) (Nat.le_of_ble_eq_true rfl) ⟨Nat.le_of_ble_eq_true rfl, Nat.le_of_ble_eq_true rfl⟩ dX10_init_6 (fun q1 H hW => ?_)
  have hW : WD g A s _ _ [(h0, .inr (10, [.int 0, .int 0, .int 0, .null, .null, .null, .null, .null, .null, .null, .null, .null, .null, .null, .int 0, .null])), (q1, .inl (g.2.1 1, 4, .inl (fun _ => 0)))] := hW
  refine r_putF (ws' := [(h0, .inr (10, [.int 0, .int 0, .int 0, .ref q1, .null, .null, .null, .null, .null, .null, .null, .null, .null, .null, .int 0, .null])), (q1, .inl (g.2.1 1, 4, .inl (fun _ => 0)))]) X hin hW 0 ciX10 3 rfl (by decide) m_291 rfl rfl rfl rfl rfl (Nat.le_of_ble_eq_true rfl) rfl dX10_init_8 (fun H locs hW => ?_)
  refine lv_aload_n (pc := 11) hx hb dX10_init_11 rfl (lv_at hl 0 rfl) ?_
  refine lv_iconst (v := 4) (pc := 12) hx hb dX10_init_12 (by decide) ?_
  refine r_newa (a0 := (4, .inl (fun _ => 0))) X hW .int rfl m_47 1 rfl (by intro C h; cases h) (fun _ => rfl) (by decide) (by decide) (Nat.le_of_ble_eq_true rfl) ⟨Nat.le_of_ble_eq_true rfl, Nat.le_of_ble_eq_true rfl⟩ dX10_init_13 (fun q2 H hW => ?_)
  have hW : WD g A s _ _ [(h0, .inr (10, [.int 0, .int 0, .int 0, .ref q1, .null, .null, .null, .null, .null, .null, .null, .null, .null, .null, .int 0, .null])), (q1, .inl (g.2.1 1, 4, .inl (fun _ => 0))), (q2, .inl (g.2.1 1, 4, .inl (fun _ => 0)))] := hW
  refine r_putF (ws' := [(h0, .inr (10, [.int 0, .int 0, .int 0, .ref q1, .ref q2, .null, .null, .null, .null, .null, .null, .null, .null, .null, .int 0, .null])), (q1, .inl (g.2.1 1, 4, .inl (fun _ => 0))), (q2, .inl (g.2.1 1, 4, .inl (fun _ => 0)))]) X hin hW 0 ciX10 4 rfl (by decide) m_296 rfl rfl rfl rfl rfl (Nat.le_of_ble_eq_true rfl) rfl dX10_init_15 (fun H locs hW => ?_)
  refine lv_aload_n (pc := 18) hx hb dX10_init_18 rfl (lv_at hl 0 rfl) ?_
  refine lv_iconst (v := 4) (pc := 19) hx hb dX10_init_19 (by decide) ?_
  refine r_newa (a0 := (4, .inl (fun _ => 0))) X hW .int rfl m_47 1 rfl (by intro C h; cases h) (fun _ => rfl) (by decide) (by decide) (Nat.le_of_ble_eq_true rfl) ⟨Nat.le_of_ble_eq_true rfl, Nat.le_of_ble_eq_true rfl⟩ dX10_init_20 (fun q3 H hW => ?_)
  have hW : WD g A s _ _ [(h0, .inr (10, [.int 0, .int 0, .int 0, .ref q1, .ref q2, .null, .null, .null, .null, .null, .null, .null, .null, .null, .int 0, .null])), (q1, .inl (g.2.1 1, 4, .inl (fun _ => 0))), (q2, .inl (g.2.1 1, 4, .inl (fun _ => 0))), (q3, .inl (g.2.1 1, 4, .inl (fun _ => 0)))] := hW
  refine r_putF (ws' := [(h0, .inr (10, [.int 0, .int 0, .int 0, .ref q1, .ref q2, .ref q3, .null, .null, .null, .null, .null, .null, .null, .null, .int 0, .null])), (q1, .inl (g.2.1 1, 4, .inl (fun _ => 0))), (q2, .inl (g.2.1 1, 4, .inl (fun _ => 0))), (q3, .inl (g.2.1 1, 4, .inl (fun _ => 0)))]) X hin hW 0 ciX10 5 rfl (by decide) m_300 rfl rfl rfl rfl rfl (Nat.le_of_ble_eq_true rfl) rfl dX10_init_22 (fun H locs hW => ?_)
  refine lv_aload_n (pc := 25) hx hb dX10_init_25 rfl (lv_at hl 0 rfl) ?_
  refine lv_bipush (v := 7) (pc := 26) hx hb dX10_init_26 (by decide) ?_
  refine r_newa (a0 := (7, .inl (fun _ => 0))) X hW .int rfl m_47 1 rfl (by intro C h; cases h) (fun _ => rfl) (by decide) (by decide) (Nat.le_of_ble_eq_true rfl) ⟨Nat.le_of_ble_eq_true rfl, Nat.le_of_ble_eq_true rfl⟩ dX10_init_28 (fun q4 H hW => ?_)
  have hW : WD g A s _ _ [(h0, .inr (10, [.int 0, .int 0, .int 0, .ref q1, .ref q2, .ref q3, .null, .null, .null, .null, .null, .null, .null, .null, .int 0, .null])), (q1, .inl (g.2.1 1, 4, .inl (fun _ => 0))), (q2, .inl (g.2.1 1, 4, .inl (fun _ => 0))), (q3, .inl (g.2.1 1, 4, .inl (fun _ => 0)))] := hW.pick [0, 1, 2, 3] rfl rfl
  refine r_putF (ws' := [(h0, .inr (10, [.int 0, .int 0, .int 0, .ref q1, .ref q2, .ref q3, .ref q4, .null, .null, .null, .null, .null, .null, .null, .int 0, .null])), (q1, .inl (g.2.1 1, 4, .inl (fun _ => 0))), (q2, .inl (g.2.1 1, 4, .inl (fun _ => 0))), (q3, .inl (g.2.1 1, 4, .inl (fun _ => 0)))]) X hin hW 0 ciX10 6 rfl (by decide) m_304 rfl rfl rfl rfl rfl (Nat.le_of_ble_eq_true rfl) rfl dX10_init_30 (fun H locs hW => ?_)
  refine lv_aload_n (pc := 33) hx hb dX10_init_33 rfl (lv_at hl 0 rfl) ?_
  refine lv_bipush (v := 7) (pc := 34) hx hb dX10_init_34 (by decide) ?_
  refine r_newa (a0 := (7, .inl (fun _ => 0))) X hW .int rfl m_47 1 rfl (by intro C h; cases h) (fun _ => rfl) (by decide) (by decide) (Nat.le_of_ble_eq_true rfl) ⟨Nat.le_of_ble_eq_true rfl, Nat.le_of_ble_eq_true rfl⟩ dX10_init_36 (fun q5 H hW => ?_)
  have hW : WD g A s _ _ [(h0, .inr (10, [.int 0, .int 0, .int 0, .ref q1, .ref q2, .ref q3, .ref q4, .null, .null, .null, .null, .null, .null, .null, .int 0, .null])), (q1, .inl (g.2.1 1, 4, .inl (fun _ => 0))), (q2, .inl (g.2.1 1, 4, .inl (fun _ => 0))), (q3, .inl (g.2.1 1, 4, .inl (fun _ => 0)))] := hW.pick [0, 1, 2, 3] rfl rfl
  refine r_putF (ws' := [(h0, .inr (10, [.int 0, .int 0, .int 0, .ref q1, .ref q2, .ref q3, .ref q4, .ref q5, .null, .null, .null, .null, .null, .null, .int 0, .null])), (q1, .inl (g.2.1 1, 4, .inl (fun _ => 0))), (q2, .inl (g.2.1 1, 4, .inl (fun _ => 0))), (q3, .inl (g.2.1 1, 4, .inl (fun _ => 0)))]) X hin hW 0 ciX10 7 rfl (by decide) m_306 rfl rfl rfl rfl rfl (Nat.le_of_ble_eq_true rfl) rfl dX10_init_38 (fun H locs hW => ?_)
  refine lv_aload_n (pc := 41) hx hb dX10_init_41 rfl (lv_at hl 0 rfl) ?_
  refine lv_bipush (v := 7) (pc := 42) hx hb dX10_init_42 (by decide) ?_
  refine r_newa (a0 := (7, .inl (fun _ => 0))) X hW .int rfl m_47 1 rfl (by intro C h; cases h) (fun _ => rfl) (by decide) (by decide) (Nat.le_of_ble_eq_true rfl) ⟨Nat.le_of_ble_eq_true rfl, Nat.le_of_ble_eq_true rfl⟩ dX10_init_44 (fun q6 H hW => ?_)
  have hW : WD g A s _ _ [(h0, .inr (10, [.int 0, .int 0, .int 0, .ref q1, .ref q2, .ref q3, .ref q4, .ref q5, .null, .null, .null, .null, .null, .null, .int 0, .null])), (q1, .inl (g.2.1 1, 4, .inl (fun _ => 0))), (q2, .inl (g.2.1 1, 4, .inl (fun _ => 0))), (q3, .inl (g.2.1 1, 4, .inl (fun _ => 0)))] := hW.pick [0, 1, 2, 3] rfl rfl
  refine r_putF (ws' := [(h0, .inr (10, [.int 0, .int 0, .int 0, .ref q1, .ref q2, .ref q3, .ref q4, .ref q5, .ref q6, .null, .null, .null, .null, .null, .int 0, .null])), (q1, .inl (g.2.1 1, 4, .inl (fun _ => 0))), (q2, .inl (g.2.1 1, 4, .inl (fun _ => 0))), (q3, .inl (g.2.1 1, 4, .inl (fun _ => 0)))]) X hin hW 0 ciX10 8 rfl (by decide) m_308 rfl rfl rfl rfl rfl (Nat.le_of_ble_eq_true rfl) rfl dX10_init_46 (fun H locs hW => ?_)
  refine lv_aload_n (pc := 49) hx hb dX10_init_49 rfl (lv_at hl 0 rfl) ?_
  refine lv_bipush (v := 72) (pc := 50) hx hb dX10_init_50 (by decide) ?_
  refine r_newa (a0 := (72, .inl (fun _ => 0))) X hW .int rfl m_47 1 rfl (by intro C h; cases h) (fun _ => rfl) (by decide) (by decide) (Nat.le_of_ble_eq_true rfl) ⟨Nat.le_of_ble_eq_true rfl, Nat.le_of_ble_eq_true rfl⟩ dX10_init_52 (fun q7 H hW => ?_)
  have hW : WD g A s _ _ [(h0, .inr (10, [.int 0, .int 0, .int 0, .ref q1, .ref q2, .ref q3, .ref q4, .ref q5, .ref q6, .null, .null, .null, .null, .null, .int 0, .null])), (q1, .inl (g.2.1 1, 4, .inl (fun _ => 0))), (q2, .inl (g.2.1 1, 4, .inl (fun _ => 0))), (q3, .inl (g.2.1 1, 4, .inl (fun _ => 0)))] := hW.pick [0, 1, 2, 3] rfl rfl
  refine r_putF (ws' := [(h0, .inr (10, [.int 0, .int 0, .int 0, .ref q1, .ref q2, .ref q3, .ref q4, .ref q5, .ref q6, .ref q7, .null, .null, .null, .null, .int 0, .null])), (q1, .inl (g.2.1 1, 4, .inl (fun _ => 0))), (q2, .inl (g.2.1 1, 4, .inl (fun _ => 0))), (q3, .inl (g.2.1 1, 4, .inl (fun _ => 0)))]) X hin hW 0 ciX10 9 rfl (by decide) m_310 rfl rfl rfl rfl rfl (Nat.le_of_ble_eq_true rfl) rfl dX10_init_54 (fun H locs hW => ?_)
  refine lv_aload_n (pc := 57) hx hb dX10_init_57 rfl (lv_at hl 0 rfl) ?_
  refine lv_sipush (v := 175) (pc := 58) hx hb dX10_init_58 (by decide) ?_
  refine r_newa (a0 := (175, .inl (fun _ => 0))) X hW .int rfl m_47 1 rfl (by intro C h; cases h) (fun _ => rfl) (by decide) (by decide) (Nat.le_of_ble_eq_true rfl) ⟨Nat.le_of_ble_eq_true rfl, Nat.le_of_ble_eq_true rfl⟩ dX10_init_61 (fun q8 H hW => ?_)
  have hW : WD g A s _ _ [(h0, .inr (10, [.int 0, .int 0, .int 0, .ref q1, .ref q2, .ref q3, .ref q4, .ref q5, .ref q6, .ref q7, .null, .null, .null, .null, .int 0, .null])), (q1, .inl (g.2.1 1, 4, .inl (fun _ => 0))), (q2, .inl (g.2.1 1, 4, .inl (fun _ => 0))), (q3, .inl (g.2.1 1, 4, .inl (fun _ => 0)))] := hW.pick [0, 1, 2, 3] rfl rfl
  refine r_putF (ws' := [(h0, .inr (10, [.int 0, .int 0, .int 0, .ref q1, .ref q2, .ref q3, .ref q4, .ref q5, .ref q6, .ref q7, .ref q8, .null, .null, .null, .int 0, .null])), (q1, .inl (g.2.1 1, 4, .inl (fun _ => 0))), (q2, .inl (g.2.1 1, 4, .inl (fun _ => 0))), (q3, .inl (g.2.1 1, 4, .inl (fun _ => 0)))]) X hin hW 0 ciX10 10 rfl (by decide) m_311 rfl rfl rfl rfl rfl (Nat.le_of_ble_eq_true rfl) rfl dX10_init_63 (fun H locs hW => ?_)
  refine lv_aload_n (pc := 66) hx hb dX10_init_66 rfl (lv_at hl 0 rfl) ?_
  refine lv_bipush (v := 42) (pc := 67) hx hb dX10_init_67 (by decide) ?_
  refine r_newa (a0 := (42, .inl (fun _ => 0))) X hW .int rfl m_47 1 rfl (by intro C h; cases h) (fun _ => rfl) (by decide) (by decide) (Nat.le_of_ble_eq_true rfl) ⟨Nat.le_of_ble_eq_true rfl, Nat.le_of_ble_eq_true rfl⟩ dX10_init_69 (fun q9 H hW => ?_)
  have hW : WD g A s _ _ [(h0, .inr (10, [.int 0, .int 0, .int 0, .ref q1, .ref q2, .ref q3, .ref q4, .ref q5, .ref q6, .ref q7, .ref q8, .null, .null, .null, .int 0, .null])), (q1, .inl (g.2.1 1, 4, .inl (fun _ => 0))), (q2, .inl (g.2.1 1, 4, .inl (fun _ => 0))), (q3, .inl (g.2.1 1, 4, .inl (fun _ => 0)))] := hW.pick [0, 1, 2, 3] rfl rfl
  refine r_putF (ws' := [(h0, .inr (10, [.int 0, .int 0, .int 0, .ref q1, .ref q2, .ref q3, .ref q4, .ref q5, .ref q6, .ref q7, .ref q8, .ref q9, .null, .null, .int 0, .null])), (q1, .inl (g.2.1 1, 4, .inl (fun _ => 0))), (q2, .inl (g.2.1 1, 4, .inl (fun _ => 0))), (q3, .inl (g.2.1 1, 4, .inl (fun _ => 0)))]) X hin hW 0 ciX10 11 rfl (by decide) m_312 rfl rfl rfl rfl rfl (Nat.le_of_ble_eq_true rfl) rfl dX10_init_71 (fun H locs hW => ?_)
  refine lv_aload_n (pc := 74) hx hb dX10_init_74 rfl (lv_at hl 0 rfl) ?_
  refine lv_bipush (v := 7) (pc := 75) hx hb dX10_init_75 (by decide) ?_
  refine r_newa (a0 := (7, .inl (fun _ => 0))) X hW .int rfl m_47 1 rfl (by intro C h; cases h) (fun _ => rfl) (by decide) (by decide) (Nat.le_of_ble_eq_true rfl) ⟨Nat.le_of_ble_eq_true rfl, Nat.le_of_ble_eq_true rfl⟩ dX10_init_77 (fun q10 H hW => ?_)
  have hW : WD g A s _ _ [(h0, .inr (10, [.int 0, .int 0, .int 0, .ref q1, .ref q2, .ref q3, .ref q4, .ref q5, .ref q6, .ref q7, .ref q8, .ref q9, .null, .null, .int 0, .null])), (q1, .inl (g.2.1 1, 4, .inl (fun _ => 0))), (q2, .inl (g.2.1 1, 4, .inl (fun _ => 0))), (q3, .inl (g.2.1 1, 4, .inl (fun _ => 0)))] := hW.pick [0, 1, 2, 3] rfl rfl
  refine r_putF (ws' := [(h0, .inr (10, [.int 0, .int 0, .int 0, .ref q1, .ref q2, .ref q3, .ref q4, .ref q5, .ref q6, .ref q7, .ref q8, .ref q9, .ref q10, .null, .int 0, .null])), (q1, .inl (g.2.1 1, 4, .inl (fun _ => 0))), (q2, .inl (g.2.1 1, 4, .inl (fun _ => 0))), (q3, .inl (g.2.1 1, 4, .inl (fun _ => 0)))]) X hin hW 0 ciX10 12 rfl (by decide) m_313 rfl rfl rfl rfl rfl (Nat.le_of_ble_eq_true rfl) rfl dX10_init_79 (fun H locs hW => ?_)
  refine lv_aload_n (pc := 82) hx hb dX10_init_82 rfl (lv_at hl 0 rfl) ?_
  refine lv_bipush (v := 28) (pc := 83) hx hb dX10_init_83 (by decide) ?_
  refine r_newa (a0 := (28, .inl (fun _ => 0))) X hW .int rfl m_47 1 rfl (by intro C h; cases h) (fun _ => rfl) (by decide) (by decide) (Nat.le_of_ble_eq_true rfl) ⟨Nat.le_of_ble_eq_true rfl, Nat.le_of_ble_eq_true rfl⟩ dX10_init_85 (fun q11 H hW => ?_)
  have hW : WD g A s _ _ [(h0, .inr (10, [.int 0, .int 0, .int 0, .ref q1, .ref q2, .ref q3, .ref q4, .ref q5, .ref q6, .ref q7, .ref q8, .ref q9, .ref q10, .null, .int 0, .null])), (q1, .inl (g.2.1 1, 4, .inl (fun _ => 0))), (q2, .inl (g.2.1 1, 4, .inl (fun _ => 0))), (q3, .inl (g.2.1 1, 4, .inl (fun _ => 0)))] := hW.pick [0, 1, 2, 3] rfl rfl
  refine r_putF (ws' := [(h0, .inr (10, [.int 0, .int 0, .int 0, .ref q1, .ref q2, .ref q3, .ref q4, .ref q5, .ref q6, .ref q7, .ref q8, .ref q9, .ref q10, .ref q11, .int 0, .null])), (q1, .inl (g.2.1 1, 4, .inl (fun _ => 0))), (q2, .inl (g.2.1 1, 4, .inl (fun _ => 0))), (q3, .inl (g.2.1 1, 4, .inl (fun _ => 0)))]) X hin hW 0 ciX10 13 rfl (by decide) m_314 rfl rfl rfl rfl rfl (Nat.le_of_ble_eq_true rfl) rfl dX10_init_87 (fun H locs hW => ?_)
  refine lv_aload_n (pc := 90) hx hb dX10_init_90 rfl (lv_at hl 0 rfl) ?_
  refine lv_bipush (v := (-2)) (pc := 91) hx hb dX10_init_91 (by decide) ?_
  refine r_put (ws' := [(h0, .inr (10, [.int 0, .int 0, .int 0, .ref q1, .ref q2, .ref q3, .ref q4, .ref q5, .ref q6, .ref q7, .ref q8, .ref q9, .ref q10, .ref q11, .int (-2), .null])), (q1, .inl (g.2.1 1, 4, .inl (fun _ => 0))), (q2, .inl (g.2.1 1, 4, .inl (fun _ => 0))), (q3, .inl (g.2.1 1, 4, .inl (fun _ => 0)))]) X hW 0 ciX10 14 rfl (by decide) m_315 rfl rfl rfl rfl (Nat.le_of_ble_eq_true rfl) rfl dX10_init_93 (fun H locs hW => ?_)
  refine lv_aload_n (pc := 96) hx hb dX10_init_96 rfl (lv_at hl 0 rfl) ?_
  refine lv_bipush (v := 7) (pc := 97) hx hb dX10_init_97 (by decide) ?_
  refine r_newa (a0 := (7, .inl (fun _ => 0))) X hW .int rfl m_47 1 rfl (by intro C h; cases h) (fun _ => rfl) (by decide) (by decide) (Nat.le_of_ble_eq_true rfl) ⟨Nat.le_of_ble_eq_true rfl, Nat.le_of_ble_eq_true rfl⟩ dX10_init_99 (fun q12 H hW => ?_)
  have hW : WD g A s _ _ [(h0, .inr (10, [.int 0, .int 0, .int 0, .ref q1, .ref q2, .ref q3, .ref q4, .ref q5, .ref q6, .ref q7, .ref q8, .ref q9, .ref q10, .ref q11, .int (-2), .null])), (q1, .inl (g.2.1 1, 4, .inl (fun _ => 0))), (q2, .inl (g.2.1 1, 4, .inl (fun _ => 0))), (q3, .inl (g.2.1 1, 4, .inl (fun _ => 0)))] := hW.pick [0, 1, 2, 3] rfl rfl
  refine r_putF (ws' := [(h0, .inr (10, [.int 0, .int 0, .int 0, .ref q1, .ref q2, .ref q3, .ref q4, .ref q5, .ref q6, .ref q7, .ref q8, .ref q9, .ref q10, .ref q11, .int (-2), .ref q12])), (q1, .inl (g.2.1 1, 4, .inl (fun _ => 0))), (q2, .inl (g.2.1 1, 4, .inl (fun _ => 0))), (q3, .inl (g.2.1 1, 4, .inl (fun _ => 0)))]) X hin hW 0 ciX10 15 rfl (by decide) m_317 rfl rfl rfl rfl rfl (Nat.le_of_ble_eq_true rfl) rfl dX10_init_101 (fun H locs hW => ?_)
  exact e_v X hQ hr hW (u := [(h0, .inr (10, [.int 0, .int 0, .int 0, .ref q1, .ref q2, .ref q3, .ref q4, .ref q5, .ref q6, .ref q7, .ref q8, .ref q9, .ref q10, .ref q11, .int (-2), .ref q12])), (q1, .inl (g.2.1 1, 4, .inl (fun _ => 0))), (q2, .inl (g.2.1 1, 4, .inl (fun _ => 0))), (q3, .inl (g.2.1 1, 4, .inl (fun _ => 0)))]) [0, 1, 2, 3] rfl rfl (⟨q1, q2, q3, q4, q5, q6, q7, q8, q9, q10, q11, q12, rfl⟩) ⟨Nat.le_of_ble_eq_true rfl, Nat.le_of_ble_eq_true rfl⟩ dX10_init_104

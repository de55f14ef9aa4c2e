theorem m_34 : (Cond.code yX8_init prog_10_method_1_code 1 (Option.none : Option Jvm.ClassFile.FieldType)) ∈ BW := bw (tb1 34 rfl) (by decide +kernel)
theorem dX8_init_0 : decode cX8_init 0 = .ok (.aload_n 0, 1) := DX8_init _ _ _ rfl
theorem m_35 : (Cond.methodLink "NoonValley$Tape" 3 objectInit) ∈ BW := bw (tb1 35 (by decide +kernel)) (by decide +kernel)
theorem m_28 : (Cond.instanceMethod objectInit) ∈ BW := bw (tb1 28 (by decide +kernel)) (by decide +kernel)
theorem m_29 : (Cond.code objectInit object_method_1_code 1 (Option.none : Option Jvm.ClassFile.FieldType)) ∈ BW := bw (tb1 29 rfl) (by decide +kernel)
theorem dX8_init_1 : decode cX8_init 1 = .ok (.invokespecial 3, 3) := DX8_init _ _ _ rfl
theorem dX8_init_4 : decode cX8_init 4 = .ok (.aload_n 0, 1) := DX8_init _ _ _ rfl
theorem dX8_init_5 : decode cX8_init 5 = .ok (.sipush 400, 3) := DX8_init _ _ _ rfl
theorem m_47 : (Cond.arrayClass FieldType.int) ∈ BW := bw (tb1 47 (by decide +kernel)) (by decide +kernel)
theorem dX8_init_8 : decode cX8_init 8 = .ok (.newarray .int, 2) := DX8_init _ _ _ rfl
theorem m_40 : (Cond.laysFinal "NoonValley$Tape" "NoonValley$Tape" "bytes" "[I") ∈ BW := bw (tb1 40 (by decide +kernel)) (by decide +kernel)
theorem m_42 : (Cond.lays "NoonValley$Tape" "NoonValley$Tape" "length" "I") ∈ BW := bw (tb1 42 (by decide +kernel)) (by decide +kernel)
theorem m_44 : (Cond.lays "NoonValley$Tape" "NoonValley$Tape" "place" "I") ∈ BW := bw (tb1 44 (by decide +kernel)) (by decide +kernel)
theorem ciX8 : CI 8 RX8 TX8 3 tyX8 := ⟨rfl, fun w hw => by
  obtain ⟨k, hk, rfl⟩ := List.mem_map.mp hw
  have hk := List.mem_range.mp hk
  match k, hk with
  | 0, _ => exact m_40
  | 1, _ => exact m_42
  | 2, _ => exact m_44
  | k + 3, h => exact absurd h (by omega), tyX8_ok, nmX8⟩
theorem m_36 : (Cond.fieldLink "NoonValley$Tape" 11 "NoonValley$Tape" "bytes" "[I") ∈ BW := bw (tb1 36 (by decide +kernel)) (by decide +kernel)
theorem dX8_init_10 : decode cX8_init 10 = .ok (.putfield 11, 3) := DX8_init _ _ _ rfl
theorem dX8_init_13 : decode cX8_init 13 = .ok (.return_, 1) := DX8_init _ _ _ rfl
theorem m_56 : (Cond.code yX1_init prog_3_method_1_code 1 (Option.none : Option Jvm.ClassFile.FieldType)) ∈ BW := bw (tb1 56 rfl) (by decide +kernel)
theorem dX1_init_0 : decode cX1_init 0 = .ok (.aload_n 0, 1) := DX1_init _ _ _ rfl
theorem m_57 : (Cond.methodLink "NoonValley$Carrying" 3 objectInit) ∈ BW := bw (tb1 57 (by decide +kernel)) (by decide +kernel)
theorem dX1_init_1 : decode cX1_init 1 = .ok (.invokespecial 3, 3) := DX1_init _ _ _ rfl
theorem dX1_init_4 : decode cX1_init 4 = .ok (.aload_n 0, 1) := DX1_init _ _ _ rfl
theorem dX1_init_5 : decode cX1_init 5 = .ok (.bipush 7, 2) := DX1_init _ _ _ rfl
theorem dX1_init_7 : decode cX1_init 7 = .ok (.newarray .int, 2) := DX1_init _ _ _ rfl
theorem m_64 : (Cond.laysFinal "NoonValley$Carrying" "NoonValley$Carrying" "known" "[I") ∈ BW := bw (tb1 64 (by decide +kernel)) (by decide +kernel)
theorem m_66 : (Cond.laysFinal "NoonValley$Carrying" "NoonValley$Carrying" "toldOnce" "[I") ∈ BW := bw (tb1 66 (by decide +kernel)) (by decide +kernel)
theorem m_68 : (Cond.lays "NoonValley$Carrying" "NoonValley$Carrying" "deaf" "I") ∈ BW := bw (tb1 68 (by decide +kernel)) (by decide +kernel)
theorem m_70 : (Cond.lays "NoonValley$Carrying" "NoonValley$Carrying" "useful" "J") ∈ BW := bw (tb1 70 (by decide +kernel)) (by decide +kernel)
theorem m_72 : (Cond.lays "NoonValley$Carrying" "NoonValley$Carrying" "breaking" "J") ∈ BW := bw (tb1 72 (by decide +kernel)) (by decide +kernel)
theorem ciX1 : CI 1 RX1 TX1 5 tyX1 := ⟨rfl, fun w hw => by
  obtain ⟨k, hk, rfl⟩ := List.mem_map.mp hw
  have hk := List.mem_range.mp hk
  match k, hk with
  | 0, _ => exact m_64
  | 1, _ => exact m_66
  | 2, _ => exact m_68
  | 3, _ => exact m_70
  | 4, _ => exact m_72
  | k + 5, h => exact absurd h (by omega), tyX1_ok, nmX1⟩
theorem m_58 : (Cond.fieldLink "NoonValley$Carrying" 9 "NoonValley$Carrying" "known" "[I") ∈ BW := bw (tb1 58 (by decide +kernel)) (by decide +kernel)
theorem dX1_init_9 : decode cX1_init 9 = .ok (.putfield 9, 3) := DX1_init _ _ _ rfl
theorem dX1_init_12 : decode cX1_init 12 = .ok (.aload_n 0, 1) := DX1_init _ _ _ rfl
theorem dX1_init_13 : decode cX1_init 13 = .ok (.bipush 7, 2) := DX1_init _ _ _ rfl
theorem dX1_init_15 : decode cX1_init 15 = .ok (.newarray .int, 2) := DX1_init _ _ _ rfl
theorem m_60 : (Cond.fieldLink "NoonValley$Carrying" 15 "NoonValley$Carrying" "toldOnce" "[I") ∈ BW := bw (tb1 60 (by decide +kernel)) (by decide +kernel)
theorem dX1_init_17 : decode cX1_init 17 = .ok (.putfield 15, 3) := DX1_init _ _ _ rfl
theorem dX1_init_20 : decode cX1_init 20 = .ok (.return_, 1) := DX1_init _ _ _ rfl
theorem m_85 : (Cond.code yX5_init prog_7_method_1_code 1 (Option.none : Option Jvm.ClassFile.FieldType)) ∈ BW := bw (tb1 85 rfl) (by decide +kernel)
theorem dX5_init_0 : decode cX5_init 0 = .ok (.aload_n 0, 1) := DX5_init _ _ _ rfl
theorem m_86 : (Cond.methodLink "NoonValley$Rows" 3 objectInit) ∈ BW := bw (tb1 86 (by decide +kernel)) (by decide +kernel)
theorem dX5_init_1 : decode cX5_init 1 = .ok (.invokespecial 3, 3) := DX5_init _ _ _ rfl
theorem dX5_init_4 : decode cX5_init 4 = .ok (.aload_n 0, 1) := DX5_init _ _ _ rfl
theorem dX5_init_5 : decode cX5_init 5 = .ok (.sipush 128, 3) := DX5_init _ _ _ rfl
theorem dX5_init_8 : decode cX5_init 8 = .ok (.newarray .int, 2) := DX5_init _ _ _ rfl
theorem m_96 : (Cond.laysFinal "NoonValley$Rows" "NoonValley$Rows" "sets" "[I") ∈ BW := bw (tb1 96 (by decide +kernel)) (by decide +kernel)
theorem m_98 : (Cond.laysFinal "NoonValley$Rows" "NoonValley$Rows" "rows" "[I") ∈ BW := bw (tb1 98 (by decide +kernel)) (by decide +kernel)
theorem m_100 : (Cond.laysFinal "NoonValley$Rows" "NoonValley$Rows" "met" "[Z") ∈ BW := bw (tb1 100 (by decide +kernel)) (by decide +kernel)
theorem m_102 : (Cond.lays "NoonValley$Rows" "NoonValley$Rows" "count" "I") ∈ BW := bw (tb1 102 (by decide +kernel)) (by decide +kernel)
theorem m_104 : (Cond.laysFinal "NoonValley$Rows" "NoonValley$Rows" "choices" "[I") ∈ BW := bw (tb1 104 (by decide +kernel)) (by decide +kernel)
theorem m_106 : (Cond.lays "NoonValley$Rows" "NoonValley$Rows" "people" "I") ∈ BW := bw (tb1 106 (by decide +kernel)) (by decide +kernel)
theorem ciX5 : CI 5 RX5 TX5 6 tyX5 := ⟨rfl, fun w hw => by
  obtain ⟨k, hk, rfl⟩ := List.mem_map.mp hw
  have hk := List.mem_range.mp hk
  match k, hk with
  | 0, _ => exact m_96
  | 1, _ => exact m_98
  | 2, _ => exact m_100
  | 3, _ => exact m_102
  | 4, _ => exact m_104
  | 5, _ => exact m_106
  | k + 6, h => exact absurd h (by omega), tyX5_ok, nmX5⟩
theorem m_87 : (Cond.fieldLink "NoonValley$Rows" 11 "NoonValley$Rows" "sets" "[I") ∈ BW := bw (tb1 87 (by decide +kernel)) (by decide +kernel)
theorem dX5_init_10 : decode cX5_init 10 = .ok (.putfield 11, 3) := DX5_init _ _ _ rfl
theorem dX5_init_13 : decode cX5_init 13 = .ok (.aload_n 0, 1) := DX5_init _ _ _ rfl
theorem dX5_init_14 : decode cX5_init 14 = .ok (.sipush 128, 3) := DX5_init _ _ _ rfl
theorem dX5_init_17 : decode cX5_init 17 = .ok (.newarray .int, 2) := DX5_init _ _ _ rfl
theorem m_89 : (Cond.fieldLink "NoonValley$Rows" 15 "NoonValley$Rows" "rows" "[I") ∈ BW := bw (tb1 89 (by decide +kernel)) (by decide +kernel)
theorem dX5_init_19 : decode cX5_init 19 = .ok (.putfield 15, 3) := DX5_init _ _ _ rfl
theorem dX5_init_22 : decode cX5_init 22 = .ok (.aload_n 0, 1) := DX5_init _ _ _ rfl
theorem dX5_init_23 : decode cX5_init 23 = .ok (.sipush 128, 3) := DX5_init _ _ _ rfl
theorem m_109 : (Cond.arrayClass FieldType.boolean) ∈ BW := bw (tb1 109 (by decide +kernel)) (by decide +kernel)
theorem dX5_init_26 : decode cX5_init 26 = .ok (.newarray .boolean, 2) := DX5_init _ _ _ rfl
theorem m_91 : (Cond.fieldLink "NoonValley$Rows" 18 "NoonValley$Rows" "met" "[Z") ∈ BW := bw (tb1 91 (by decide +kernel)) (by decide +kernel)
theorem dX5_init_28 : decode cX5_init 28 = .ok (.putfield 18, 3) := DX5_init _ _ _ rfl
theorem dX5_init_31 : decode cX5_init 31 = .ok (.aload_n 0, 1) := DX5_init _ _ _ rfl
theorem dX5_init_32 : decode cX5_init 32 = .ok (.bipush 7, 2) := DX5_init _ _ _ rfl
theorem dX5_init_34 : decode cX5_init 34 = .ok (.newarray .int, 2) := DX5_init _ _ _ rfl
theorem m_94 : (Cond.fieldLink "NoonValley$Rows" 22 "NoonValley$Rows" "choices" "[I") ∈ BW := bw (tb1 94 (by decide +kernel)) (by decide +kernel)
theorem dX5_init_36 : decode cX5_init 36 = .ok (.putfield 22, 3) := DX5_init _ _ _ rfl
theorem dX5_init_39 : decode cX5_init 39 = .ok (.return_, 1) := DX5_init _ _ _ rfl
theorem m_172 : (Cond.code yX6_init prog_8_method_1_code 1 (Option.none : Option Jvm.ClassFile.FieldType)) ∈ BW := bw (tb1 172 rfl) (by decide +kernel)
theorem dX6_init_0 : decode cX6_init 0 = .ok (.aload_n 0, 1) := DX6_init _ _ _ rfl
theorem m_173 : (Cond.methodLink "NoonValley$Shutting" 3 objectInit) ∈ BW := bw (tb1 173 (by decide +kernel)) (by decide +kernel)
theorem dX6_init_1 : decode cX6_init 1 = .ok (.invokespecial 3, 3) := DX6_init _ _ _ rfl
theorem dX6_init_4 : decode cX6_init 4 = .ok (.return_, 1) := DX6_init _ _ _ rfl
theorem m_194 : (Cond.code yX3_init prog_5_method_1_code 1 (Option.none : Option Jvm.ClassFile.FieldType)) ∈ BW := bw (tb1 194 rfl) (by decide +kernel)
theorem dX3_init_0 : decode cX3_init 0 = .ok (.aload_n 0, 1) := DX3_init _ _ _ rfl
theorem m_195 : (Cond.methodLink "NoonValley$Gossip" 3 objectInit) ∈ BW := bw (tb1 195 (by decide +kernel)) (by decide +kernel)
theorem dX3_init_1 : decode cX3_init 1 = .ok (.invokespecial 3, 3) := DX3_init _ _ _ rfl
theorem dX3_init_4 : decode cX3_init 4 = .ok (.aload_n 0, 1) := DX3_init _ _ _ rfl
theorem dX3_init_5 : decode cX3_init 5 = .ok (.iconst 5, 1) := DX3_init _ _ _ rfl
theorem dX3_init_6 : decode cX3_init 6 = .ok (.newarray .int, 2) := DX3_init _ _ _ rfl
theorem m_199 : (Cond.lays "NoonValley$Gossip" "NoonValley$Gossip" "valley" "LNoonValley$Valley;") ∈ BW := bw (tb1 199 (by decide +kernel)) (by decide +kernel)
theorem m_201 : (Cond.lays "NoonValley$Gossip" "NoonValley$Gossip" "all" "I") ∈ BW := bw (tb1 201 (by decide +kernel)) (by decide +kernel)
theorem m_203 : (Cond.laysFinal "NoonValley$Gossip" "NoonValley$Gossip" "knows" "[I") ∈ BW := bw (tb1 203 (by decide +kernel)) (by decide +kernel)
theorem ciX3 : CI 3 RX3 TX3 3 tyX3 := ⟨rfl, fun w hw => by
  obtain ⟨k, hk, rfl⟩ := List.mem_map.mp hw
  have hk := List.mem_range.mp hk
  match k, hk with
  | 0, _ => exact m_199
  | 1, _ => exact m_201
  | 2, _ => exact m_203
  | k + 3, h => exact absurd h (by omega), tyX3_ok, nmX3⟩
theorem m_198 : (Cond.fieldLink "NoonValley$Gossip" 11 "NoonValley$Gossip" "knows" "[I") ∈ BW := bw (tb1 198 (by decide +kernel)) (by decide +kernel)
theorem dX3_init_8 : decode cX3_init 8 = .ok (.putfield 11, 3) := DX3_init _ _ _ rfl
theorem dX3_init_11 : decode cX3_init 11 = .ok (.return_, 1) := DX3_init _ _ _ rfl
theorem m_210 : (Cond.code yX9_init prog_11_method_1_code 1 (Option.none : Option Jvm.ClassFile.FieldType)) ∈ BW := bw (tb1 210 rfl) (by decide +kernel)
theorem dX9_init_0 : decode cX9_init 0 = .ok (.aload_n 0, 1) := DX9_init _ _ _ rfl
theorem m_211 : (Cond.methodLink "NoonValley$Trade" 3 objectInit) ∈ BW := bw (tb1 211 (by decide +kernel)) (by decide +kernel)
theorem dX9_init_1 : decode cX9_init 1 = .ok (.invokespecial 3, 3) := DX9_init _ _ _ rfl
theorem dX9_init_4 : decode cX9_init 4 = .ok (.aload_n 0, 1) := DX9_init _ _ _ rfl
theorem dX9_init_5 : decode cX9_init 5 = .ok (.sipush 4096, 3) := DX9_init _ _ _ rfl
theorem dX9_init_8 : decode cX9_init 8 = .ok (.newarray .int, 2) := DX9_init _ _ _ rfl
theorem m_217 : (Cond.lays "NoonValley$Trade" "NoonValley$Trade" "now" "[I") ∈ BW := bw (tb1 217 (by decide +kernel)) (by decide +kernel)
theorem m_219 : (Cond.lays "NoonValley$Trade" "NoonValley$Trade" "next" "[I") ∈ BW := bw (tb1 219 (by decide +kernel)) (by decide +kernel)
theorem m_221 : (Cond.laysFinal "NoonValley$Trade" "NoonValley$Trade" "open" "[Z") ∈ BW := bw (tb1 221 (by decide +kernel)) (by decide +kernel)
theorem ciX9 : CI 9 RX9 TX9 3 tyX9 := ⟨rfl, fun w hw => by
  obtain ⟨k, hk, rfl⟩ := List.mem_map.mp hw
  have hk := List.mem_range.mp hk
  match k, hk with
  | 0, _ => exact m_217
  | 1, _ => exact m_219
  | 2, _ => exact m_221
  | k + 3, h => exact absurd h (by omega), tyX9_ok, nmX9⟩
theorem m_214 : (Cond.fieldLink "NoonValley$Trade" 11 "NoonValley$Trade" "now" "[I") ∈ BW := bw (tb1 214 (by decide +kernel)) (by decide +kernel)
theorem dX9_init_10 : decode cX9_init 10 = .ok (.putfield 11, 3) := DX9_init _ _ _ rfl
theorem dX9_init_13 : decode cX9_init 13 = .ok (.aload_n 0, 1) := DX9_init _ _ _ rfl
theorem dX9_init_14 : decode cX9_init 14 = .ok (.sipush 4096, 3) := DX9_init _ _ _ rfl
theorem dX9_init_17 : decode cX9_init 17 = .ok (.newarray .int, 2) := DX9_init _ _ _ rfl
theorem m_215 : (Cond.fieldLink "NoonValley$Trade" 15 "NoonValley$Trade" "next" "[I") ∈ BW := bw (tb1 215 (by decide +kernel)) (by decide +kernel)
theorem dX9_init_19 : decode cX9_init 19 = .ok (.putfield 15, 3) := DX9_init _ _ _ rfl
theorem dX9_init_22 : decode cX9_init 22 = .ok (.aload_n 0, 1) := DX9_init _ _ _ rfl
theorem m_212 : (Cond.fieldLink "NoonValley$Trade" 18 "NoonValley$Trade" "COUPLE_A" "[I") ∈ BW := bw (tb1 212 (by decide +kernel)) (by decide +kernel)
theorem dX9_init_23 : decode cX9_init 23 = .ok (.getstatic 18, 3) := DX9_init _ _ _ rfl
theorem dX9_init_26 : decode cX9_init 26 = .ok (.arraylength, 1) := DX9_init _ _ _ rfl
theorem dX9_init_27 : decode cX9_init 27 = .ok (.newarray .boolean, 2) := DX9_init _ _ _ rfl
theorem m_216 : (Cond.fieldLink "NoonValley$Trade" 21 "NoonValley$Trade" "open" "[Z") ∈ BW := bw (tb1 216 (by decide +kernel)) (by decide +kernel)
theorem dX9_init_29 : decode cX9_init 29 = .ok (.putfield 21, 3) := DX9_init _ _ _ rfl
theorem dX9_init_32 : decode cX9_init 32 = .ok (.return_, 1) := DX9_init _ _ _ rfl
theorem m_228 : (Cond.code yX0_init prog_2_method_1_code 1 (Option.none : Option Jvm.ClassFile.FieldType)) ∈ BW := bw (tb1 228 rfl) (by decide +kernel)
theorem dX0_init_0 : decode cX0_init 0 = .ok (.aload_n 0, 1) := DX0_init _ _ _ rfl
theorem m_229 : (Cond.methodLink "NoonValley$Cards" 3 objectInit) ∈ BW := bw (tb1 229 (by decide +kernel)) (by decide +kernel)
theorem dX0_init_1 : decode cX0_init 1 = .ok (.invokespecial 3, 3) := DX0_init _ _ _ rfl
theorem dX0_init_4 : decode cX0_init 4 = .ok (.aload_n 0, 1) := DX0_init _ _ _ rfl
theorem dX0_init_5 : decode cX0_init 5 = .ok (.bipush 7, 2) := DX0_init _ _ _ rfl
theorem dX0_init_7 : decode cX0_init 7 = .ok (.newarray .int, 2) := DX0_init _ _ _ rfl
theorem m_238 : (Cond.lays "NoonValley$Cards" "NoonValley$Cards" "valley" "LNoonValley$Valley;") ∈ BW := bw (tb1 238 (by decide +kernel)) (by decide +kernel)
theorem m_240 : (Cond.lays "NoonValley$Cards" "NoonValley$Cards" "known" "I") ∈ BW := bw (tb2 0 (by decide +kernel)) (by decide +kernel)
theorem m_242 : (Cond.lays "NoonValley$Cards" "NoonValley$Cards" "once" "I") ∈ BW := bw (tb2 2 (by decide +kernel)) (by decide +kernel)
theorem m_244 : (Cond.laysFinal "NoonValley$Cards" "NoonValley$Cards" "called" "[I") ∈ BW := bw (tb2 4 (by decide +kernel)) (by decide +kernel)
theorem m_246 : (Cond.laysFinal "NoonValley$Cards" "NoonValley$Cards" "time" "[I") ∈ BW := bw (tb2 6 (by decide +kernel)) (by decide +kernel)
theorem m_248 : (Cond.laysFinal "NoonValley$Cards" "NoonValley$Cards" "children" "[I") ∈ BW := bw (tb2 8 (by decide +kernel)) (by decide +kernel)
theorem m_250 : (Cond.laysFinal "NoonValley$Cards" "NoonValley$Cards" "order" "[I") ∈ BW := bw (tb2 10 (by decide +kernel)) (by decide +kernel)
theorem ciX0 : CI 0 RX0 TX0 7 tyX0 := ⟨rfl, fun w hw => by
  obtain ⟨k, hk, rfl⟩ := List.mem_map.mp hw
  have hk := List.mem_range.mp hk
  match k, hk with
  | 0, _ => exact m_238
  | 1, _ => exact m_240
  | 2, _ => exact m_242
  | 3, _ => exact m_244
  | 4, _ => exact m_246
  | 5, _ => exact m_248
  | 6, _ => exact m_250
  | k + 7, h => exact absurd h (by omega), tyX0_ok, nmX0⟩
theorem m_233 : (Cond.fieldLink "NoonValley$Cards" 9 "NoonValley$Cards" "called" "[I") ∈ BW := bw (tb1 233 (by decide +kernel)) (by decide +kernel)
theorem dX0_init_9 : decode cX0_init 9 = .ok (.putfield 9, 3) := DX0_init _ _ _ rfl
theorem dX0_init_12 : decode cX0_init 12 = .ok (.aload_n 0, 1) := DX0_init _ _ _ rfl
theorem dX0_init_13 : decode cX0_init 13 = .ok (.bipush 7, 2) := DX0_init _ _ _ rfl
theorem dX0_init_15 : decode cX0_init 15 = .ok (.newarray .int, 2) := DX0_init _ _ _ rfl
theorem m_234 : (Cond.fieldLink "NoonValley$Cards" 15 "NoonValley$Cards" "time" "[I") ∈ BW := bw (tb1 234 (by decide +kernel)) (by decide +kernel)
theorem dX0_init_17 : decode cX0_init 17 = .ok (.putfield 15, 3) := DX0_init _ _ _ rfl
theorem dX0_init_20 : decode cX0_init 20 = .ok (.aload_n 0, 1) := DX0_init _ _ _ rfl
theorem dX0_init_21 : decode cX0_init 21 = .ok (.bipush 7, 2) := DX0_init _ _ _ rfl
theorem dX0_init_23 : decode cX0_init 23 = .ok (.newarray .int, 2) := DX0_init _ _ _ rfl
theorem m_236 : (Cond.fieldLink "NoonValley$Cards" 18 "NoonValley$Cards" "children" "[I") ∈ BW := bw (tb1 236 (by decide +kernel)) (by decide +kernel)
theorem dX0_init_25 : decode cX0_init 25 = .ok (.putfield 18, 3) := DX0_init _ _ _ rfl
theorem dX0_init_28 : decode cX0_init 28 = .ok (.aload_n 0, 1) := DX0_init _ _ _ rfl
theorem dX0_init_29 : decode cX0_init 29 = .ok (.bipush 7, 2) := DX0_init _ _ _ rfl
theorem dX0_init_31 : decode cX0_init 31 = .ok (.newarray .int, 2) := DX0_init _ _ _ rfl
theorem m_237 : (Cond.fieldLink "NoonValley$Cards" 21 "NoonValley$Cards" "order" "[I") ∈ BW := bw (tb1 237 (by decide +kernel)) (by decide +kernel)
theorem dX0_init_33 : decode cX0_init 33 = .ok (.putfield 21, 3) := DX0_init _ _ _ rfl
theorem dX0_init_36 : decode cX0_init 36 = .ok (.return_, 1) := DX0_init _ _ _ rfl
theorem m_257 : (Cond.code yX2_init prog_4_method_1_code 1 (Option.none : Option Jvm.ClassFile.FieldType)) ∈ BW := bw (tb2 17 rfl) (by decide +kernel)
theorem dX2_init_0 : decode cX2_init 0 = .ok (.aload_n 0, 1) := DX2_init _ _ _ rfl
theorem m_258 : (Cond.methodLink "NoonValley$Chance" 3 objectInit) ∈ BW := bw (tb2 18 (by decide +kernel)) (by decide +kernel)
theorem dX2_init_1 : decode cX2_init 1 = .ok (.invokespecial 3, 3) := DX2_init _ _ _ rfl
theorem dX2_init_4 : decode cX2_init 4 = .ok (.aload_n 0, 1) := DX2_init _ _ _ rfl
theorem dX2_init_5 : decode cX2_init 5 = .ok (.iconst 5, 1) := DX2_init _ _ _ rfl
theorem m_266 : (Cond.arrayClass FieldType.long) ∈ BW := bw (tb2 26 (by decide +kernel)) (by decide +kernel)
theorem dX2_init_6 : decode cX2_init 6 = .ok (.newarray .long, 2) := DX2_init _ _ _ rfl
theorem m_261 : (Cond.lays "NoonValley$Chance" "NoonValley$Chance" "now" "[J") ∈ BW := bw (tb2 21 (by decide +kernel)) (by decide +kernel)
theorem m_263 : (Cond.lays "NoonValley$Chance" "NoonValley$Chance" "next" "[J") ∈ BW := bw (tb2 23 (by decide +kernel)) (by decide +kernel)
theorem ciX2 : CI 2 RX2 TX2 2 tyX2 := ⟨rfl, fun w hw => by
  obtain ⟨k, hk, rfl⟩ := List.mem_map.mp hw
  have hk := List.mem_range.mp hk
  match k, hk with
  | 0, _ => exact m_261
  | 1, _ => exact m_263
  | k + 2, h => exact absurd h (by omega), tyX2_ok, nmX2⟩
theorem m_259 : (Cond.fieldLink "NoonValley$Chance" 11 "NoonValley$Chance" "now" "[J") ∈ BW := bw (tb2 19 (by decide +kernel)) (by decide +kernel)
theorem dX2_init_8 : decode cX2_init 8 = .ok (.putfield 11, 3) := DX2_init _ _ _ rfl
theorem dX2_init_11 : decode cX2_init 11 = .ok (.aload_n 0, 1) := DX2_init _ _ _ rfl
theorem dX2_init_12 : decode cX2_init 12 = .ok (.iconst 5, 1) := DX2_init _ _ _ rfl
theorem dX2_init_13 : decode cX2_init 13 = .ok (.newarray .long, 2) := DX2_init _ _ _ rfl
theorem m_260 : (Cond.fieldLink "NoonValley$Chance" 15 "NoonValley$Chance" "next" "[J") ∈ BW := bw (tb2 20 (by decide +kernel)) (by decide +kernel)
theorem dX2_init_15 : decode cX2_init 15 = .ok (.putfield 15, 3) := DX2_init _ _ _ rfl
theorem dX2_init_18 : decode cX2_init 18 = .ok (.return_, 1) := DX2_init _ _ _ rfl
theorem m_270 : (Cond.code yX10_init prog_12_method_1_code 1 (Option.none : Option Jvm.ClassFile.FieldType)) ∈ BW := bw (tb2 30 rfl) (by decide +kernel)
theorem dX10_init_0 : decode cX10_init 0 = .ok (.aload_n 0, 1) := DX10_init _ _ _ rfl
theorem m_271 : (Cond.methodLink "NoonValley$Valley" 3 objectInit) ∈ BW := bw (tb2 31 (by decide +kernel)) (by decide +kernel)
theorem dX10_init_1 : decode cX10_init 1 = .ok (.invokespecial 3, 3) := DX10_init _ _ _ rfl
theorem dX10_init_4 : decode cX10_init 4 = .ok (.aload_n 0, 1) := DX10_init _ _ _ rfl
theorem dX10_init_5 : decode cX10_init 5 = .ok (.iconst 4, 1) := DX10_init _ _ _ rfl
theorem dX10_init_6 : decode cX10_init 6 = .ok (.newarray .int, 2) := DX10_init _ _ _ rfl
theorem m_320 : (Cond.lays "NoonValley$Valley" "NoonValley$Valley" "people" "I") ∈ BW := bw (tb2 80 (by decide +kernel)) (by decide +kernel)
theorem m_322 : (Cond.lays "NoonValley$Valley" "NoonValley$Valley" "lineCount" "I") ∈ BW := bw (tb2 82 (by decide +kernel)) (by decide +kernel)
theorem m_324 : (Cond.lays "NoonValley$Valley" "NoonValley$Valley" "deaf" "I") ∈ BW := bw (tb2 84 (by decide +kernel)) (by decide +kernel)
theorem m_326 : (Cond.laysFinal "NoonValley$Valley" "NoonValley$Valley" "knows" "[I") ∈ BW := bw (tb2 86 (by decide +kernel)) (by decide +kernel)
theorem m_328 : (Cond.laysFinal "NoonValley$Valley" "NoonValley$Valley" "must" "[I") ∈ BW := bw (tb2 88 (by decide +kernel)) (by decide +kernel)
theorem m_330 : (Cond.laysFinal "NoonValley$Valley" "NoonValley$Valley" "mustNot" "[I") ∈ BW := bw (tb2 90 (by decide +kernel)) (by decide +kernel)
theorem m_332 : (Cond.laysFinal "NoonValley$Valley" "NoonValley$Valley" "firstNews" "[I") ∈ BW := bw (tb2 92 (by decide +kernel)) (by decide +kernel)
theorem m_334 : (Cond.laysFinal "NoonValley$Valley" "NoonValley$Valley" "mustNews" "[I") ∈ BW := bw (tb2 94 (by decide +kernel)) (by decide +kernel)
theorem m_336 : (Cond.laysFinal "NoonValley$Valley" "NoonValley$Valley" "mustNotNews" "[I") ∈ BW := bw (tb2 96 (by decide +kernel)) (by decide +kernel)
theorem m_338 : (Cond.laysFinal "NoonValley$Valley" "NoonValley$Valley" "lines" "[I") ∈ BW := bw (tb2 98 (by decide +kernel)) (by decide +kernel)
theorem m_340 : (Cond.laysFinal "NoonValley$Valley" "NoonValley$Valley" "callable" "[I") ∈ BW := bw (tb2 100 (by decide +kernel)) (by decide +kernel)
theorem m_342 : (Cond.laysFinal "NoonValley$Valley" "NoonValley$Valley" "cards" "[I") ∈ BW := bw (tb2 102 (by decide +kernel)) (by decide +kernel)
theorem m_344 : (Cond.laysFinal "NoonValley$Valley" "NoonValley$Valley" "cardLength" "[I") ∈ BW := bw (tb2 104 (by decide +kernel)) (by decide +kernel)
theorem m_346 : (Cond.laysFinal "NoonValley$Valley" "NoonValley$Valley" "tales" "[I") ∈ BW := bw (tb2 106 (by decide +kernel)) (by decide +kernel)
theorem m_348 : (Cond.lays "NoonValley$Valley" "NoonValley$Valley" "gossipLength" "I") ∈ BW := bw (tb2 108 (by decide +kernel)) (by decide +kernel)
theorem m_350 : (Cond.laysFinal "NoonValley$Valley" "NoonValley$Valley" "gossipLines" "[I") ∈ BW := bw (tb2 110 (by decide +kernel)) (by decide +kernel)
theorem ciX10 : CI 10 RX10 TX10 16 tyX10 := ⟨rfl, fun w hw => by
  obtain ⟨k, hk, rfl⟩ := List.mem_map.mp hw
  have hk := List.mem_range.mp hk
  match k, hk with
  | 0, _ => exact m_320
  | 1, _ => exact m_322
  | 2, _ => exact m_324
  | 3, _ => exact m_326
  | 4, _ => exact m_328
  | 5, _ => exact m_330
  | 6, _ => exact m_332
  | 7, _ => exact m_334
  | 8, _ => exact m_336
  | 9, _ => exact m_338
  | 10, _ => exact m_340
  | 11, _ => exact m_342
  | 12, _ => exact m_344
  | 13, _ => exact m_346
  | 14, _ => exact m_348
  | 15, _ => exact m_350
  | k + 16, h => exact absurd h (by omega), tyX10_ok, nmX10⟩
theorem m_291 : (Cond.fieldLink "NoonValley$Valley" 9 "NoonValley$Valley" "knows" "[I") ∈ BW := bw (tb2 51 (by decide +kernel)) (by decide +kernel)
theorem dX10_init_8 : decode cX10_init 8 = .ok (.putfield 9, 3) := DX10_init _ _ _ rfl
theorem dX10_init_11 : decode cX10_init 11 = .ok (.aload_n 0, 1) := DX10_init _ _ _ rfl
theorem dX10_init_12 : decode cX10_init 12 = .ok (.iconst 4, 1) := DX10_init _ _ _ rfl
theorem dX10_init_13 : decode cX10_init 13 = .ok (.newarray .int, 2) := DX10_init _ _ _ rfl
theorem m_296 : (Cond.fieldLink "NoonValley$Valley" 15 "NoonValley$Valley" "must" "[I") ∈ BW := bw (tb2 56 (by decide +kernel)) (by decide +kernel)
theorem dX10_init_15 : decode cX10_init 15 = .ok (.putfield 15, 3) := DX10_init _ _ _ rfl
theorem dX10_init_18 : decode cX10_init 18 = .ok (.aload_n 0, 1) := DX10_init _ _ _ rfl
theorem dX10_init_19 : decode cX10_init 19 = .ok (.iconst 4, 1) := DX10_init _ _ _ rfl
theorem dX10_init_20 : decode cX10_init 20 = .ok (.newarray .int, 2) := DX10_init _ _ _ rfl
theorem m_300 : (Cond.fieldLink "NoonValley$Valley" 18 "NoonValley$Valley" "mustNot" "[I") ∈ BW := bw (tb2 60 (by decide +kernel)) (by decide +kernel)
theorem dX10_init_22 : decode cX10_init 22 = .ok (.putfield 18, 3) := DX10_init _ _ _ rfl
theorem dX10_init_25 : decode cX10_init 25 = .ok (.aload_n 0, 1) := DX10_init _ _ _ rfl
theorem dX10_init_26 : decode cX10_init 26 = .ok (.bipush 7, 2) := DX10_init _ _ _ rfl
theorem dX10_init_28 : decode cX10_init 28 = .ok (.newarray .int, 2) := DX10_init _ _ _ rfl
theorem m_304 : (Cond.fieldLink "NoonValley$Valley" 21 "NoonValley$Valley" "firstNews" "[I") ∈ BW := bw (tb2 64 (by decide +kernel)) (by decide +kernel)
theorem dX10_init_30 : decode cX10_init 30 = .ok (.putfield 21, 3) := DX10_init _ _ _ rfl
theorem dX10_init_33 : decode cX10_init 33 = .ok (.aload_n 0, 1) := DX10_init _ _ _ rfl
theorem dX10_init_34 : decode cX10_init 34 = .ok (.bipush 7, 2) := DX10_init _ _ _ rfl
theorem dX10_init_36 : decode cX10_init 36 = .ok (.newarray .int, 2) := DX10_init _ _ _ rfl
theorem m_306 : (Cond.fieldLink "NoonValley$Valley" 24 "NoonValley$Valley" "mustNews" "[I") ∈ BW := bw (tb2 66 (by decide +kernel)) (by decide +kernel)
theorem dX10_init_38 : decode cX10_init 38 = .ok (.putfield 24, 3) := DX10_init _ _ _ rfl
theorem dX10_init_41 : decode cX10_init 41 = .ok (.aload_n 0, 1) := DX10_init _ _ _ rfl
theorem dX10_init_42 : decode cX10_init 42 = .ok (.bipush 7, 2) := DX10_init _ _ _ rfl
theorem dX10_init_44 : decode cX10_init 44 = .ok (.newarray .int, 2) := DX10_init _ _ _ rfl
theorem m_308 : (Cond.fieldLink "NoonValley$Valley" 27 "NoonValley$Valley" "mustNotNews" "[I") ∈ BW := bw (tb2 68 (by decide +kernel)) (by decide +kernel)
theorem dX10_init_46 : decode cX10_init 46 = .ok (.putfield 27, 3) := DX10_init _ _ _ rfl
theorem dX10_init_49 : decode cX10_init 49 = .ok (.aload_n 0, 1) := DX10_init _ _ _ rfl
theorem dX10_init_50 : decode cX10_init 50 = .ok (.bipush 72, 2) := DX10_init _ _ _ rfl
theorem dX10_init_52 : decode cX10_init 52 = .ok (.newarray .int, 2) := DX10_init _ _ _ rfl
theorem m_310 : (Cond.fieldLink "NoonValley$Valley" 30 "NoonValley$Valley" "lines" "[I") ∈ BW := bw (tb2 70 (by decide +kernel)) (by decide +kernel)
theorem dX10_init_54 : decode cX10_init 54 = .ok (.putfield 30, 3) := DX10_init _ _ _ rfl
theorem dX10_init_57 : decode cX10_init 57 = .ok (.aload_n 0, 1) := DX10_init _ _ _ rfl
theorem dX10_init_58 : decode cX10_init 58 = .ok (.sipush 175, 3) := DX10_init _ _ _ rfl
theorem dX10_init_61 : decode cX10_init 61 = .ok (.newarray .int, 2) := DX10_init _ _ _ rfl
theorem m_311 : (Cond.fieldLink "NoonValley$Valley" 33 "NoonValley$Valley" "callable" "[I") ∈ BW := bw (tb2 71 (by decide +kernel)) (by decide +kernel)
theorem dX10_init_63 : decode cX10_init 63 = .ok (.putfield 33, 3) := DX10_init _ _ _ rfl
theorem dX10_init_66 : decode cX10_init 66 = .ok (.aload_n 0, 1) := DX10_init _ _ _ rfl
theorem dX10_init_67 : decode cX10_init 67 = .ok (.bipush 42, 2) := DX10_init _ _ _ rfl
theorem dX10_init_69 : decode cX10_init 69 = .ok (.newarray .int, 2) := DX10_init _ _ _ rfl
theorem m_312 : (Cond.fieldLink "NoonValley$Valley" 36 "NoonValley$Valley" "cards" "[I") ∈ BW := bw (tb2 72 (by decide +kernel)) (by decide +kernel)
theorem dX10_init_71 : decode cX10_init 71 = .ok (.putfield 36, 3) := DX10_init _ _ _ rfl
theorem dX10_init_74 : decode cX10_init 74 = .ok (.aload_n 0, 1) := DX10_init _ _ _ rfl
theorem dX10_init_75 : decode cX10_init 75 = .ok (.bipush 7, 2) := DX10_init _ _ _ rfl
theorem dX10_init_77 : decode cX10_init 77 = .ok (.newarray .int, 2) := DX10_init _ _ _ rfl
theorem m_313 : (Cond.fieldLink "NoonValley$Valley" 39 "NoonValley$Valley" "cardLength" "[I") ∈ BW := bw (tb2 73 (by decide +kernel)) (by decide +kernel)
theorem dX10_init_79 : decode cX10_init 79 = .ok (.putfield 39, 3) := DX10_init _ _ _ rfl
theorem dX10_init_82 : decode cX10_init 82 = .ok (.aload_n 0, 1) := DX10_init _ _ _ rfl
theorem dX10_init_83 : decode cX10_init 83 = .ok (.bipush 28, 2) := DX10_init _ _ _ rfl
theorem dX10_init_85 : decode cX10_init 85 = .ok (.newarray .int, 2) := DX10_init _ _ _ rfl
theorem m_314 : (Cond.fieldLink "NoonValley$Valley" 42 "NoonValley$Valley" "tales" "[I") ∈ BW := bw (tb2 74 (by decide +kernel)) (by decide +kernel)
theorem dX10_init_87 : decode cX10_init 87 = .ok (.putfield 42, 3) := DX10_init _ _ _ rfl
theorem dX10_init_90 : decode cX10_init 90 = .ok (.aload_n 0, 1) := DX10_init _ _ _ rfl
theorem dX10_init_91 : decode cX10_init 91 = .ok (.bipush (-2), 2) := DX10_init _ _ _ rfl
theorem m_315 : (Cond.fieldLink "NoonValley$Valley" 45 "NoonValley$Valley" "gossipLength" "I") ∈ BW := bw (tb2 75 (by decide +kernel)) (by decide +kernel)
theorem dX10_init_93 : decode cX10_init 93 = .ok (.putfield 45, 3) := DX10_init _ _ _ rfl
theorem dX10_init_96 : decode cX10_init 96 = .ok (.aload_n 0, 1) := DX10_init _ _ _ rfl
theorem dX10_init_97 : decode cX10_init 97 = .ok (.bipush 7, 2) := DX10_init _ _ _ rfl
theorem dX10_init_99 : decode cX10_init 99 = .ok (.newarray .int, 2) := DX10_init _ _ _ rfl
theorem m_317 : (Cond.fieldLink "NoonValley$Valley" 51 "NoonValley$Valley" "gossipLines" "[I") ∈ BW := bw (tb2 77 (by decide +kernel)) (by decide +kernel)
theorem dX10_init_101 : decode cX10_init 101 = .ok (.putfield 51, 3) := DX10_init _ _ _ rfl
theorem dX10_init_104 : decode cX10_init 104 = .ok (.return_, 1) := DX10_init _ _ _ rfl
